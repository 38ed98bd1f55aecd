/-! SIM: whom each tower is against -/
def sm_qs (g : Nat → Bool) : Nat → Nat → Nat → Nat
  | 0, _, a => a
  | l + 1, t, a => sm_qs g l (t + 1) (if g t = true then a ||| 2 ^ t else a)
theorem sm_qs_bit (g : Nat → Bool) : ∀ l t a u, (sm_qs g l t a).testBit u = (a.testBit u || (decide (t ≤ u ∧ u < t + l) && g u))
  | 0, t, a, u => by
    show a.testBit u = _
    rw [decide_eq_false (show ¬ (t ≤ u ∧ u < t + 0) by omega)]
    simp
  | l + 1, t, a, u => by
    unfold sm_qs
    rw [sm_qs_bit g l (t + 1)]
    by_cases e : t = u
    · subst e
      rw [decide_eq_false (show ¬ (t + 1 ≤ t ∧ t < t + 1 + l) by omega), decide_eq_true (show t ≤ t ∧ t < t + (l + 1) by omega)]
      cases h : g t with
      | true => rw [if_pos rfl, Nat.testBit_or, Nat.testBit_two_pow_self]; simp
      | false => rw [if_neg Bool.false_ne_true]; simp
    · have e2 : (if g t = true then a ||| 2 ^ t else a).testBit u = a.testBit u := by
        split
        · rw [Nat.testBit_or, Nat.testBit_two_pow_of_ne e, Bool.or_false]
        · rfl
      rw [e2, show decide (t + 1 ≤ u ∧ u < t + 1 + l) = decide (t ≤ u ∧ u < t + (l + 1)) from decide_eq_decide.mpr (by omega)]
theorem sm_qs_lt (g : Nat → Bool) : ∀ l t a, t + l ≤ 10 → a < 1024 → sm_qs g l t a < 1024
  | 0, _, _, _, h => h
  | l + 1, t, a, h1, h2 => by
    unfold sm_qs
    refine sm_qs_lt g l (t + 1) _ (by omega) ?_
    split
    · exact Nat.or_lt_two_pow (n := 10) h2 (Nat.pow_lt_pow_right (by decide) (by omega))
    · exact h2
/-- a row of bits in a cell of ten places -/
def sm_rw (c : Nat) (P : Nat → Nat) (m : gk_M) : Prop := ∀ j, j < 10 → m.1 c j = sm_n (P j)
def sm_ag (T : Nat → sm_tw) (R : sm_rd) (S : sm_fs) (F : sm_lf) (s t : Nat) : Bool := sm_any R.1 0 (fun r => sm_any (R.2.1 r - 1) 0 (fun i => sm_gs T R S F r i s t))
def sm_qx (n : Nat) (T : Nat → sm_tw) (R : sm_rd) (S : sm_fs) (F : sm_lf) (m0 m : gk_M) : Prop := sm_X n T R S F m ∧ (∀ k j, k ≠ 3 → k ≠ 19 → k ≠ 20 → k ≠ 22 → m.1 k j = m0.1 k j) ∧ m.2 = m0.2
section AG
variable {n : Nat} {T : Nat → sm_tw} {R : sm_rd} {S : sm_fs} {F : sm_lf} {m0 m : gk_M}
theorem x_fq25 (hd : sm_dis n T) {s : Nat} (hs : s < n) (k10 : Int32 → gk_M → Option (Unit × gk_M)) (g : Nat → Bool) (hg : ∀ t, g t = decide (0 < sm_gop T R S F s t)) : ∀ l t fu P m, t + l = n → s < t → l < fu → sm_qx n T R S F m0 m → sm_rw 22 P m → ∃ m', sm_qx n T R S F m0 m' ∧ sm_rw 22 (sm_up P s (sm_qs g l t (P s))) m' ∧ f_Planner_findQuarrels_25 k10 fu (sm_n s) (sm_n t) m = k10 (sm_n (s + 1)) m'
  | 0, t, fu + 1, P, m, h1, h2, h3, hq, hP => by
    have hn := hq.1.2.1
    refine ⟨m, hq, ?_, ?_⟩
    · intro j hj
      by_cases e : j = s
      · subst e; rw [sm_up1]; exact hP j hj
      · rw [sm_up0 e]; exact hP j hj
    · unfold f_Planner_findQuarrels_25
      rw [hq.1.1, if_pos (by simp (disch := omega) only [sm_lit, sm_nlt, sm_nle, sm_neq, sm_n_add, sm_n_mul, sm_n_div, sm_n_rem, sm_bi, sm_bl, sm_bv, sm_let, sm_zz0, sm_zz1, sm_ai, sm_si, sm_al, sm_sl, sm_ar, sm_mi1, sm_mi0, sm_ml1, sm_ml0, sm_mil, sm_mli]; omega), show sm_n s + 1 = sm_n (s + 1) from sm_n_add s 1]
  | l + 1, t, fu + 1, P, m, h1, h2, h3, hq, hP => by
    have hn := hq.1.2.1
    obtain ⟨m1, e1, q1⟩ := x_gop (s := s) (t := t) (hd s t hs (by omega) (by omega)) (by omega) (by omega) (sm_q0 hq.1)
    have hb : sm_gop T R S F s t < 2147483648 := by
      have h5 := hq.1.2.2.2.1.2.1
      have := sm_sum_le (f := fun r => sm_sum (R.2.1 r - 1) 0 (fun i => sm_c1 (sm_gs T R S F r i s t))) (b := 5) (l := R.1) (i := 0) (fun r _ hr => by
        have := sm_sum_le (f := fun i => sm_c1 (sm_gs T R S F r i s t)) (b := 1) (l := R.2.1 r - 1) (i := 0) (fun i _ _ => by unfold sm_c1; split <;> omega)
        have h6 := (hq.1.2.2.2.1.2.2 r (by omega)).2.2.1
        omega)
      unfold sm_gop
      omega
    have hq1 : sm_qx n T R S F m0 m1 := ⟨q1.1, fun k j a b c d => (q1.2.1 k j a b c).trans (hq.2.1 k j a b c d), q1.2.2.trans hq.2.2⟩
    have hP1 : sm_rw 22 P m1 := fun j hj => (q1.2.1 22 j (by decide) (by decide) (by decide)).trans (hP j hj)
    have e2 : sm_qs g (l + 1) t (P s) = sm_qs g l (t + 1) (if g t = true then P s ||| 2 ^ t else P s) := rfl
    unfold f_Planner_findQuarrels_25
    rw [hq.1.1, if_neg (by simp (disch := omega) only [sm_lit, sm_nlt, sm_nle, sm_neq, sm_n_add, sm_n_mul, sm_n_div, sm_n_rem, sm_bi, sm_bl, sm_bv, sm_let, sm_zz0, sm_zz1, sm_ai, sm_si, sm_al, sm_sl, sm_ar, sm_mi1, sm_mi0, sm_ml1, sm_ml0, sm_mil, sm_mli]; omega), e1, sm_bi, show sm_n t + 1 = sm_n (t + 1) from sm_n_add t 1, e2]
    by_cases hz : 0 < sm_gop T R S F s t
    · rw [if_neg (show ¬ sm_n (sm_gop T R S F s t) ≤ 0 by simp (disch := omega) only [sm_lit, sm_nlt, sm_nle, sm_neq, sm_n_add, sm_n_mul, sm_n_div, sm_n_rem, sm_bi, sm_bl, sm_bv, sm_let, sm_zz0, sm_zz1, sm_ai, sm_si, sm_al, sm_sl, sm_ar, sm_mi1, sm_mi0, sm_ml1, sm_ml0, sm_mil, sm_mli]; omega), sm_ai (by omega) (by omega), hP1 s (by omega), sm_shl (by omega), sm_bor, sm_si (by omega) (by omega), if_pos (show g t = true by rw [hg]; exact decide_eq_true hz)]
      have hP2 : sm_rw 22 (sm_up P s (P s ||| 2 ^ t)) (gk_mi m1 22 s (sm_n (P s ||| 2 ^ t))) := by
        intro j hj
        by_cases e : j = s
        · subst e; rw [sm_up1, sm_mi1]
        · rw [sm_up0 e, sm_mi0 (fun z => e z.2)]; exact hP1 j hj
      have hq2 : sm_qx n T R S F m0 (gk_mi m1 22 s (sm_n (P s ||| 2 ^ t))) := ⟨sm_X_fr (by intro k j h; unfold sm_fX at h; simp (disch := omega) only [sm_mi0, sm_mil, sm_mli]) hq1.1, fun k j a b c d => by rw [sm_mi0 (fun z => d z.1)]; exact hq1.2.1 k j a b c d, hq1.2.2⟩
      obtain ⟨m3, q3, P3, e3⟩ := x_fq25 hd hs k10 g hg l (t + 1) fu _ _ (by omega) (by omega) (by omega) hq2 hP2
      refine ⟨m3, q3, ?_, e3⟩
      rw [sm_up1] at P3
      intro j hj
      have := P3 j hj
      by_cases e : j = s
      · subst e; rw [sm_up1] at this ⊢; exact this
      · rw [sm_up0 e, sm_up0 e] at this; rw [sm_up0 e]; exact this
    · rw [if_pos (show sm_n (sm_gop T R S F s t) ≤ 0 by simp (disch := omega) only [sm_lit, sm_nlt, sm_nle, sm_neq, sm_n_add, sm_n_mul, sm_n_div, sm_n_rem, sm_bi, sm_bl, sm_bv, sm_let, sm_zz0, sm_zz1, sm_ai, sm_si, sm_al, sm_sl, sm_ar, sm_mi1, sm_mi0, sm_ml1, sm_ml0, sm_mil, sm_mli]; omega), if_neg (show ¬ g t = true by rw [hg]; exact fun z => hz (of_decide_eq_true z))]
      exact x_fq25 hd hs k10 g hg l (t + 1) fu P m1 (by omega) (by omega) (by omega) hq1 hP1
theorem x_fq10 (hd : sm_dis n T) : ∀ l s fu P m, s + l = n → l < fu → sm_qx n T R S F m0 m → sm_rw 22 P m → (∀ j, s ≤ j → P j = 0) → ∃ m', sm_qx n T R S F m0 m' ∧ sm_rw 22 (fun j => if s ≤ j ∧ j < n then sm_qs (fun t => decide (0 < sm_gop T R S F j t)) (n - (j + 1)) (j + 1) 0 else P j) m' ∧ f_Planner_findQuarrels_10 fu (sm_n s) m = some ((), m')
  | 0, s, fu + 1, P, m, h1, h3, hq, hP, h0 => by
    have hn := hq.1.2.1
    refine ⟨m, hq, ?_, ?_⟩
    · intro j hj
      show m.1 22 j = sm_n (if s ≤ j ∧ j < n then _ else P j)
      rw [if_neg (by omega)]
      exact hP j hj
    · unfold f_Planner_findQuarrels_10
      rw [hq.1.1, if_pos (by simp (disch := omega) only [sm_lit, sm_nlt, sm_nle, sm_neq, sm_n_add, sm_n_mul, sm_n_div, sm_n_rem, sm_bi, sm_bl, sm_bv, sm_let, sm_zz0, sm_zz1, sm_ai, sm_si, sm_al, sm_sl, sm_ar, sm_mi1, sm_mi0, sm_ml1, sm_ml0, sm_mil, sm_mli]; omega)]
  | l + 1, s, fu + 1, P, m, h1, h3, hq, hP, h0 => by
    have hn := hq.1.2.1
    obtain ⟨m1, q1, P1, e1⟩ := x_fq25 hd (show s < n by omega) (f_Planner_findQuarrels_10 fu) _ (fun _ => rfl) (n - (s + 1)) (s + 1) gk_fv P m (by omega) (by omega) (by rw [gk_fv_eq]; omega) hq hP
    obtain ⟨m2, q2, P2, e2⟩ := x_fq10 hd l (s + 1) fu _ m1 (by omega) (by omega) q1 P1 (fun j hj => by rw [sm_up0 (show ¬ j = s by omega)]; exact h0 j (by omega))
    refine ⟨m2, q2, ?_, ?_⟩
    · intro j hj
      have hp := P2 j hj
      show m2.1 22 j = sm_n (if s ≤ j ∧ j < n then sm_qs (fun t => decide (0 < sm_gop T R S F j t)) (n - (j + 1)) (j + 1) 0 else P j)
      have hp : m2.1 22 j = sm_n (if s + 1 ≤ j ∧ j < n then sm_qs (fun t => decide (0 < sm_gop T R S F j t)) (n - (j + 1)) (j + 1) 0 else sm_up P s (sm_qs (fun t => decide (0 < sm_gop T R S F s t)) (n - (s + 1)) (s + 1) (P s)) j) := hp
      rw [hp]
      by_cases e : j = s
      · subst e
        rw [if_neg (by omega), if_pos (by omega), sm_up1, h0 j (Nat.le_refl j)]
      · by_cases e2 : s ≤ j ∧ j < n
        · rw [if_pos (by omega), if_pos e2]
        · rw [if_neg (by omega), if_neg e2, sm_up0 e]
    · unfold f_Planner_findQuarrels_10
      rw [hq.1.1, if_neg (by simp (disch := omega) only [sm_lit, sm_nlt, sm_nle, sm_neq, sm_n_add, sm_n_mul, sm_n_div, sm_n_rem, sm_bi, sm_bl, sm_bv, sm_let, sm_zz0, sm_zz1, sm_ai, sm_si, sm_al, sm_sl, sm_ar, sm_mi1, sm_mi0, sm_ml1, sm_ml0, sm_mil, sm_mli]; omega), sm_let, show sm_n s + 1 = sm_n (s + 1) from sm_n_add s 1, e1]
      exact e2
def sm_Qr (n : Nat) (T : Nat → sm_tw) (R : sm_rd) (S : sm_fs) (F : sm_lf) (j : Nat) : Nat := if j < n then sm_qs (fun t => decide (0 < sm_gop T R S F j t)) (n - (j + 1)) (j + 1) 0 else 0
theorem x_findQuarrels (hd : sm_dis n T) (hX : sm_X n T R S F m) : ∃ m', f_Planner_findQuarrels m = some ((), m') ∧ sm_qx n T R S F m m' ∧ sm_rw 22 (sm_Qr n T R S F) m' := by
  have hn := hX.2.1
  unfold f_Planner_findQuarrels
  rw [x_fillI 22 10 (by omega) 0 m, sm_bv]
  obtain ⟨m1, q1, P1, e1⟩ := x_fq10 (m0 := m) hd n 0 gk_fv (fun _ => 0) (sm_fill m 22 0 0 10) (by omega) (by rw [gk_fv_eq]; omega) ⟨sm_X_fr (by intro k j h; unfold sm_fX at h; rw [sm_fill0 (by omega)]) hX, fun k j _ _ _ d => sm_fill0 (fun z => d z.1), rfl⟩ (fun j hj => sm_fill1 ⟨rfl, by omega, hj⟩) (fun _ _ => rfl)
  refine ⟨m1, e1, q1, ?_⟩
  intro j hj
  have := P1 j hj
  unfold sm_Qr
  have h2 : m1.1 22 j = sm_n (if 0 ≤ j ∧ j < n then sm_qs (fun t => decide (0 < sm_gop T R S F j t)) (n - (j + 1)) (j + 1) 0 else 0) := this
  rw [h2]
  by_cases e : j < n
  · rw [if_pos ⟨Nat.zero_le j, e⟩, if_pos e]
  · rw [if_neg (fun z => e z.2), if_neg e]
end AG
