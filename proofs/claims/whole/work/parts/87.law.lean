/-! SIM: law -/
def sl_F (q : sl_Q) : sm_lf := fun a b o k n m => decide (¬ sl_v (q.2.2.2 (sl_six a b o k n m)) = 0)
theorem sl_v0 {v : Int32} {q : sl_Q} {f : Nat → Int32} (h : v = sl_v (q.2.2.2 (sl_cut f))) : v = 0 ↔ sl_F q (f 0) (f 1) (f 2) (f 3) (f 4) (f 5) = false := by
  unfold sl_F
  rw [decide_eq_false_iff_not, Classical.not_not, h]
  rfl
theorem sl_xF {q : sl_Q} {m : gk_M} {N : Nat} (hN : N = q.2.2.1.length) (hN1 : 1 ≤ N) (hN2 : N ≤ 256) (h1 : m.1 1 2 = sm_n N) (h2 : sl_at 2 m 0 q.2.2.1) (hx : sl_rx q.2.2.1 q.2.2.2) : sm_xF (sl_F q) m := by
  intro m1 e1 e2
  have h1' : m1.1 1 2 = sm_n N := by rw [e1]; exact h1
  have ev : f_Law_verdict m1 = f_Law_verdict_31 (gk_fv - N + N) 0 0 (sm_n 0) m1 := by
    unfold f_Law_verdict
    rw [h1', if_pos (show ¬ sm_n N = 0 by rw [show (0 : Int32) = sm_n 0 from rfl, sm_neq (by omega) (by omega)]; omega), show gk_fv - N + N = gk_fv by rw [gk_fv_eq]; omega]
    rfl
  obtain ⟨m2, r1, r2, r3, r4⟩ := hx m1 0 (gk_fv - N) N h1' hN2 (by omega) (sl_at_cg _ _ (fun j _ _ => by rw [e2]) h2)
  rw [← hN] at r3 r4
  rcases hv : q.2.2.2 (sl_cut (m1.1 19)) with _ | x
  · obtain ⟨fu', f1, f2⟩ := r4 hv
    refine ⟨0, m2, ?_, ?_, r1, r2⟩
    · rw [ev, f2]
      cases fu' with
      | zero => rw [gk_fv_eq] at f1; omega
      | succ fu' =>
        rw [f_Law_verdict_31]
        rw [show m2.1 1 2 = sm_n N by rw [r1 1 (by decide)]; exact h1', if_pos (show sm_n N ≤ sm_n (0 + N) by rw [sm_nle (by omega) (by omega)]; omega)]
    · exact sl_v0 (by rw [hv]; rfl)
  · exact ⟨x, m2, ev.trans (r3 x hv), sl_v0 (by rw [hv]; rfl), r1, r2⟩
theorem sl_mF {q : sl_Q} {t : Nat → Nat} {L : Nat} {m : gk_M} (hq : q = sl_rd t L 121 0) (hok : q.1 = true) (hL : L ≤ 120) (ht : ∀ i, i < L → t i < 256) (h18 : m.1 0 18 = sm_n L) (h12 : ∀ i, i < L → m.1 12 i = sm_n (t i)) : sm_mF (sl_F q) m := by
  refine Or.inr ⟨L, hL, h18, fun m1 e1 => ?_⟩
  obtain ⟨v, m2, e, f1, f2, f3, _⟩ := m_workOut (t := t) (L := L) (m := m1) (b := 0) (Or.inr ⟨rfl, fun i hi => by rw [e1]; exact h12 i hi⟩) hL ht
  rw [← hq] at f3
  exact ⟨v, m2, e, sl_v0 (f3 hok).1, fun k hk => funext fun j => f1 k j (by omega), fun j hj => f1 0 j (by omega), f2⟩
theorem m_law37 {t : Nat → Nat} {L : Nat} (hL : L ≤ 120) (m0 : gk_M) (h11 : ∀ i, i < L → m0.1 11 i = sm_n (t i)) : ∀ l k fu m, k + l = L → l < fu → (∀ a b, a ≠ 12 → m.1 a b = m0.1 a b) → m.2 = m0.2 → (∀ i, i < k → m.1 12 i = sm_n (t i)) → ∃ m', f_M_law_37 fu (sm_n L) (sm_n k) m = some (1, m') ∧ (∀ a b, a ≠ 12 → ¬ (a = 0 ∧ b = 18) → m'.1 a b = m0.1 a b) ∧ m'.2 = m0.2 ∧ m'.1 0 18 = sm_n L ∧ ∀ i, i < L → m'.1 12 i = sm_n (t i)
  | 0, k, fu + 1, m, h1, h3, hf, hl, hj => by
    unfold f_M_law_37
    rw [if_pos (show sm_n L ≤ sm_n k by rw [sm_nle (by omega) (by omega)]; omega), sm_let]
    exact ⟨_, rfl, fun a b ha hb => by rw [sm_mi0 hb]; exact hf a b ha, hl, sm_mi1 _ _ _ _, fun i hi => by rw [sm_mi0 (by omega)]; exact hj i (by omega)⟩
  | l + 1, k, fu + 1, m, h1, h3, hf, hl, hj => by
    unfold f_M_law_37
    rw [if_neg (show ¬ sm_n L ≤ sm_n k by rw [sm_nle (by omega) (by omega)]; omega), sm_ai (by omega) (by omega), hf 11 k (by decide), h11 k (by omega), sm_si (by omega) (by omega), show sm_n k + 1 = sm_n (k + 1) from sm_n_add k 1]
    refine m_law37 hL m0 h11 l (k + 1) fu _ (by omega) (by omega) (fun a b ha => by rw [sm_mi0 (fun z => ha z.1)]; exact hf a b ha) hl ?_
    intro i hi
    by_cases e : i = k
    · rw [e, sm_mi1]
    · rw [sm_mi0 (fun z => e z.2)]; exact hj i (by omega)
theorem c_law {mx mm : gk_M} (h : rl_ mx mm) : sm_al2 mx mm (f_X_law mx) (f_M_law mm) := by
  obtain ⟨n, TX, TM, R, S, F, nb, hX, hM, hT, hP, hK, hS, hH, hB, hR, hD⟩ := id h
  obtain ⟨L, k1, k2, k3, k4⟩ := id hK
  obtain ⟨t, ht⟩ : ∃ t : Nat → Nat, ∀ i, i < L → t i < 256 ∧ mx.1 6 i = sm_n (t i) ∧ mm.1 11 i = sm_n (t i) := by
    refine ⟨fun i => if hi : i < L then (k4 i hi).choose else 0, fun i hi => ?_⟩
    have e := (k4 i hi).choose_spec
    simp only [dif_pos hi]
    exact e
  obtain ⟨q, hq⟩ : ∃ q, q = sl_rd t L 121 0 := ⟨_, rfl⟩
  obtain ⟨g1, g2, g3⟩ := sl_GQ_rd (t := t) (L := L) 121 0
  have g2 := g2 (by omega)
  rw [← hq] at g1 g2 g3
  -- the class reads
  obtain ⟨M0, hM0⟩ : ∃ M, M = gk_mi (gk_mi (gk_mi mx 4 4 0) 4 5 (-1)) 4 1 0 := ⟨_, rfl⟩
  have f0 : sl_fr mx M0 := by
    rw [hM0]
    exact sl_fr_w (sl_fr_w (sl_fr_w sl_fr0 (Or.inr ⟨rfl, Or.inr (Or.inl rfl)⟩)) (Or.inr ⟨rfl, Or.inr (Or.inr rfl)⟩)) (Or.inr ⟨rfl, Or.inl rfl⟩)
  have hS0 : sl_XS t L mx := ⟨k2, k1, fun i hi => ⟨(ht i hi).1, (ht i hi).2.1⟩⟩
  obtain ⟨v, m1, e1, p1, p2, p3⟩ := x_rd17 121 0 gk_fv 0 0 M0 (by omega) (by rw [gk_fv_eq]; omega) (sl_XS_fr f0 hS0) (by rw [hM0, sm_mi0 (by omega), sm_mi0 (by omega), sm_mi1]; rfl) (by omega) (by rw [hM0, sm_mi0 (by omega), sm_mi1]) (by rw [hM0, sm_mi1]; rfl) (by omega)
  rw [← hq] at p2 p3
  have fx := sl_fr_tr f0 p1
  have ex : f_Reader_read mx = some (v, m1) := by
    unfold f_Reader_read
    rw [sm_let, sm_let, sm_let, ← hM0]
    exact e1
  -- the reference walks
  obtain ⟨w, m2, e2, q1, q2, q3, q4⟩ := m_workOut (t := t) (L := L) (m := mm) (b := -1) (Or.inl ⟨rfl, fun i hi => (ht i hi).2.2⟩) k1 (fun i hi => (ht i hi).1)
  rw [← hq] at q3 q4
  unfold f_X_law f_M_law f_X_law_40
  rw [ex, sm_bi, k3, e2, sm_bi, sm_let, sm_let, q1 0 16 (by omega), k3, sm_mi0 (by omega)]
  have fX : ∀ k j, k ≠ 4 → k ≠ 5 → m1.1 k j = mx.1 k j := fun k j h4 h5 => fx.1 k j h5 (fun z => h4 z.1)
  cases hok : q.1 with
  | false =>
    have ev := p3 hok
    have ew := q4 hok
    rw [ev, if_pos (sl_fneg (by omega)), ew, if_neg (sm_nn (by omega))]
    unfold f_Reader_empty
    rw [sm_let, sm_bv, if_pos (sl_fneg (by omega))]
    refine ⟨_, _, _, rfl, rfl, n, TX, TM, R, S, F, nb, sm_X_fr ?_ hX, sm_M_fr ?_ hM, hT, rl_pr_fr ?_ ?_ hP, ⟨0, by omega, sm_mi1 _ _ _ _, sm_mi1 _ _ _ _, fun i hi => absurd hi (Nat.not_lt_zero i)⟩, rl_sight_fr ?_ ?_ hS, rl_hist_fr ?_ ?_ (Nat.le_refl n) hH, rl_body_fr ?_ ?_ hB, rl_tr_fr ?_ ?_ hR, rl_sh_fr (Nat.le_refl nb) ?_ ?_ ?_ ?_ hD⟩
    · intro k j hk; unfold sm_fX at hk; rw [sm_mi0 (by omega)]; exact fX k j (by omega) (by omega)
    · intro k j hk; unfold sm_fM at hk; rw [sm_mi0 (by omega)]; exact q1 k j (by omega)
    · intro k j hk; rw [sm_mi0 (by omega)]; exact fX k j (by omega) (by omega)
    · intro k j hk; rw [sm_mi0 (by omega)]; exact q1 k j (by omega)
    · intro k j hk; rw [sm_mi0 (by omega)]; exact fX k j (by omega) (by omega)
    · intro k j hk; rw [sm_mi0 (by omega)]; exact q1 k j (by omega)
    · intro k j hk; rw [sm_mi0 (by omega)]; exact fX k j (by omega) (by omega)
    · intro k j hk; rw [sm_mi0 (by omega)]; exact q1 k j (by omega)
    · intro k j hk; rw [sm_mi0 (by omega)]; exact fX k j (by omega) (by omega)
    · intro k j hk; rw [sm_mi0 (by omega)]; exact q1 k j (by omega)
    · intro k j hk; rw [sm_mi0 (by omega)]; exact fX k j (by omega) (by omega)
    · intro k j hk; rw [sm_mi0 (by omega)]; exact q1 k j (by omega)
    · intro k j hk; rw [sm_mi0 (by omega)]; exact fX k j (by omega) (by omega)
    · intro k j hk; rw [sm_mi0 (by omega)]; exact q1 k j (by omega)
    · intro k j _; show m1.2 k j = mx.2 k j; rw [fx.2]
    · intro j; show m2.2 25 j = mm.2 25 j; rw [q2]
  | true =>
    obtain ⟨ev, ed, ea, _⟩ := p2 hok
    obtain ⟨_, ew⟩ := q3 hok
    obtain ⟨g4, g5, g6, g7⟩ := g3 hok
    rw [Nat.zero_add] at ed
    have hN : q.2.2.1.length ≤ 121 := by omega
    rw [ev, if_neg (show ¬ (0 : Int32) ≤ -1 by decide), ew, if_pos (show (-1 : Int32) < 0 by decide), ed]
    unfold f_Law_become
    rw [show (256 : Int32) = sm_n 256 from rfl, (x_min q.2.2.1.length 256 (by omega) (by omega)).1, Nat.min_eq_left (show q.2.2.1.length ≤ 256 by omega), sm_let, sm_mi1, show (0 : Int32) = sm_n 0 from rfl, sm_ci (by omega) (by omega) (by omega) (by omega), sm_bv, x_forget, sm_bv]
    unfold f_Reader_empty
    rw [sm_let, sm_bv, if_neg (show ¬ sm_n 0 ≤ -1 by decide)]
    obtain ⟨m4, e4, r1, r2, r3, r4⟩ := m_law37 (t := t) k1 (gk_mi m2 0 16 (sm_n 0)) (fun i hi => by rw [sm_mi0 (by omega), q1 11 i (by omega)]; exact (ht i hi).2.2) L 0 gk_fv _ (by omega) (by rw [gk_fv_eq]; omega) (fun _ _ _ => rfl) rfl (fun i hi => absurd hi (Nat.not_lt_zero i))
    rw [e4]
    obtain ⟨MX, hMX⟩ : ∃ M, M = gk_mi (sm_fill (sm_cpy (gk_mi m1 1 2 (sm_n q.2.2.1.length)) 5 2 0 0 q.2.2.1.length) 20 0 0 720) 4 2 0 := ⟨_, rfl⟩
    have gx : ∀ k j, k ≠ 1 → k ≠ 2 → k ≠ 4 → k ≠ 5 → k ≠ 20 → MX.1 k j = mx.1 k j := by
      intro k j n1 n2 n4 n5 n20
      rw [hMX, sm_mi0 (fun z => n4 z.1), sm_fill0 (fun z => n20 z.1)]
      show (if k = 2 then va_cpy ((gk_mi m1 1 2 (sm_n q.2.2.1.length)).1 5) ((gk_mi m1 1 2 (sm_n q.2.2.1.length)).1 2) 0 0 q.2.2.1.length else (gk_mi m1 1 2 (sm_n q.2.2.1.length)).1 k) j = mx.1 k j
      rw [if_neg n2, sm_mi0 (fun z => n1 z.1)]
      exact fX k j n4 n5
    have gm : ∀ k j, k ≠ 12 → ¬ (k = 0 ∧ 16 ≤ j ∧ j ≤ 23) → m4.1 k j = mm.1 k j := by
      intro k j k12 k0
      rw [r1 k j k12 (by omega), sm_mi0 (by omega)]
      exact q1 k j (by omega)
    have c12 : MX.1 1 2 = sm_n q.2.2.1.length := by
      rw [hMX, sm_mi0 (by omega), sm_fill0 (by omega)]
      show (if 1 = 2 then va_cpy ((gk_mi m1 1 2 (sm_n q.2.2.1.length)).1 5) ((gk_mi m1 1 2 (sm_n q.2.2.1.length)).1 2) 0 0 q.2.2.1.length else (gk_mi m1 1 2 (sm_n q.2.2.1.length)).1 1) 2 = _
      rw [if_neg (by decide), sm_mi1]
    have c2 : sl_at 2 MX 0 q.2.2.1 := by
      refine sl_at_cg _ _ (fun j j1 j2 => ?_) ea
      rw [hMX, sm_mi0 (by omega), sm_fill0 (by omega)]
      show (if 2 = 2 then va_cpy ((gk_mi m1 1 2 (sm_n q.2.2.1.length)).1 5) ((gk_mi m1 1 2 (sm_n q.2.2.1.length)).1 2) 0 0 q.2.2.1.length else (gk_mi m1 1 2 (sm_n q.2.2.1.length)).1 2) j = _
      rw [if_pos rfl]
      unfold va_cpy
      rw [if_pos (by omega), sm_mi0 (by omega), show 0 + (j - 0) = j by omega]
    obtain ⟨x1, x2, x3, x4, x5, x6, x7⟩ := hX
    obtain ⟨y1, y2, y3, y4, y5, y6⟩ := hM
    have NX : sm_X n TX R S (sl_F q) MX := by
      refine ⟨by rw [gx 7 5 (by decide) (by decide) (by decide) (by decide) (by decide)]; exact x1, x2, sm_xT_fr (fun k j hk => gx k j (by omega) (by omega) (by omega) (by omega) (by omega)) x3, sm_xR_fr (fun k j hk => gx k j (by omega) (by omega) (by omega) (by omega) (by omega)) x4, sm_xS_fr (fun k j hk => gx k j (by omega) (by omega) (by omega) (by omega) (by omega)) x5, sl_xF rfl g6 (by omega) c12 c2 g7, ?_⟩
      intro k s u hk hs hu
      left
      rw [hMX, sm_mi0 (by omega), sm_fill1 ⟨rfl, by omega, by omega⟩]
    have NM : sm_M n TM R S (sl_F q) m4 := by
      refine ⟨by rw [gm 0 6 (by decide) (by omega)]; exact y1, y2, ?_, sm_mR_fr (fun k j hk => gm k j (by omega) (by omega)) y4, sm_mS_fr (fun k j hk => gm k j (by omega) (by omega)) y5, sl_mF hq hok k1 (fun i hi => (ht i hi).1) r3 r4⟩
      intro t ht
      obtain ⟨a, b, c, d, e, f⟩ := y3 t ht
      refine ⟨a, by rw [gm 5 t (by decide) (by omega)]; exact b, ?_, ?_, by rw [gm 6 t (by decide) (by omega)]; exact e, f⟩
      · rw [gm 1 t (by decide) (by omega), gm 7 t (by decide) (by omega)]; exact c
      · rw [gm 1 (20 + t) (by decide) (by omega)]; exact d
    have fin : rl_ MX m4 := by
      refine ⟨n, TX, TM, R, S, sl_F q, nb, NX, NM, hT, rl_pr_fr ?_ ?_ hP, ⟨0, by omega, ?_, ?_, fun i hi => absurd hi (Nat.not_lt_zero i)⟩, rl_sight_fr ?_ ?_ hS, rl_hist_fr ?_ ?_ (Nat.le_refl n) hH, rl_body_fr ?_ ?_ hB, rl_tr_fr ?_ ?_ hR, rl_sh_fr (Nat.le_refl nb) ?_ ?_ ?_ ?_ hD⟩
      · intro k j hk; exact gx k j (by omega) (by omega) (by omega) (by omega) (by omega)
      · intro k j hk; exact gm k j (by omega) (by omega)
      · rw [hMX, sm_mi1]; rfl
      · rw [r1 0 16 (by decide) (by omega), sm_mi1]
      · intro k j hk; exact gx k j (by omega) (by omega) (by omega) (by omega) (by omega)
      · intro k j hk; exact gm k j (by omega) (by omega)
      · intro k j hk; exact gx k j (by omega) (by omega) (by omega) (by omega) (by omega)
      · intro k j hk; exact gm k j (by omega) (by omega)
      · intro k j hk; exact gx k j (by omega) (by omega) (by omega) (by omega) (by omega)
      · intro k j hk; exact gm k j (by omega) (by omega)
      · intro k j hk; exact gx k j (by omega) (by omega) (by omega) (by omega) (by omega)
      · intro k j hk; exact gm k j (by omega) (by omega)
      · intro k j hk; exact gx k j (by omega) (by omega) (by omega) (by omega) (by omega)
      · intro k j hk; exact gm k j (by omega) (by omega)
      · intro k j _; rw [hMX]; show m1.2 k j = mx.2 k j; rw [fx.2]
      · intro j; rw [r2]; show m2.2 25 j = mm.2 25 j; rw [q2]
    refine ⟨1, MX, m4, ?_, rfl, fin⟩
    rw [hMX]
