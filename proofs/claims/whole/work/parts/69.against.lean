/-! SIM: whom each tower is against, in the reference -/
def sm_pm (n : Nat) (T : Nat → sm_tw) (R : sm_rd) (S : sm_fs) (F : sm_lf) (m0 m : gk_M) : Prop := sm_M n T R S F m ∧ (∀ k j, k ≠ 13 → ¬ (k = 0 ∧ 19 ≤ j ∧ j ≤ 23) → k ≠ 14 → m.1 k j = m0.1 k j) ∧ ∀ k j, ¬ (k = 0 ∧ (j = 25 ∨ j = 26)) → m.2 k j = m0.2 k j
section AGM
variable {n : Nat} {T : Nat → sm_tw} {R : sm_rd} {S : sm_fs} {F : sm_lf} {m0 m : gk_M}
theorem m_aa13 {r s t : Nat} (hr : r < R.1) (hs : s < 20) (ht : t < 20) (k2 : Int32 → Int32 → Int32 → gk_M → Option (Int32 × gk_M)) (g : Nat → Bool) (hg : ∀ i, g i = sm_gs T R S F r i s t) : ∀ l i fu m, i + l + 1 = R.2.1 r → l < fu → sm_p n T R S F m0 m → ∃ m', sm_p n T R S F m0 m' ∧ f_M_areAgainst_13 k2 fu (sm_n s) (sm_n t) (sm_n r) (sm_n i) m = if sm_any l i g = true then some (1, m') else k2 (sm_n s) (sm_n t) (sm_n (r + 1)) m'
  | 0, i, fu + 1, m, h1, h3, hq => by
    have xR := hq.1.2.2.2.1
    have h5 := xR.2.1
    obtain ⟨a, b, c, d⟩ := xR.2.2 r hr
    refine ⟨m, hq, ?_⟩
    unfold f_M_areAgainst_13
    rw [sm_ai (by omega) (by omega), a, show sm_n i + 1 = sm_n (i + 1) from sm_n_add i 1, if_pos (by simp (disch := omega) only [sm_lit, sm_nlt, sm_nle, sm_neq, sm_n_add, sm_n_mul, sm_n_div, sm_n_rem, sm_bi, sm_bl, sm_bv, sm_let, sm_zz0, sm_zz1, sm_ai, sm_si, sm_al, sm_sl, sm_ar, sm_mi1, sm_mi0, sm_ml1, sm_ml0, sm_mil, sm_mli]; omega), show sm_n r + 1 = sm_n (r + 1) from sm_n_add r 1, if_neg (show ¬ sm_any 0 i g = true from Bool.false_ne_true)]
  | l + 1, i, fu + 1, m, h1, h3, hq => by
    have xR := hq.1.2.2.2.1
    have h5 := xR.2.1
    obtain ⟨a, b, c, d⟩ := xR.2.2 r hr
    obtain ⟨m1, e1, hq1, _⟩ := m_isGuiltyOn hq hr (show i + 1 < R.2.1 r by omega) hs ht
    unfold f_M_areAgainst_13
    rw [sm_ai (by omega) (by omega), a, show sm_n i + 1 = sm_n (i + 1) from sm_n_add i 1, if_neg (by simp (disch := omega) only [sm_lit, sm_nlt, sm_nle, sm_neq, sm_n_add, sm_n_mul, sm_n_div, sm_n_rem, sm_bi, sm_bl, sm_bv, sm_let, sm_zz0, sm_zz1, sm_ai, sm_si, sm_al, sm_sl, sm_ar, sm_mi1, sm_mi0, sm_ml1, sm_ml0, sm_mil, sm_mli]; omega), e1, sm_bi]
    cases hc : sm_gs T R S F r i s t with
    | false =>
      rw [if_pos (show sm_b2 false = 0 from rfl), sm_anyf ((hg i).trans hc)]
      exact m_aa13 hr hs ht k2 g hg l (i + 1) fu m1 (by omega) (by omega) hq1
    | true =>
      rw [if_neg (show ¬ sm_b2 true = 0 by decide), sm_anyt ((hg i).trans hc)]
      exact ⟨m1, hq1, rfl⟩
theorem m_aa2 {s t : Nat} (hs : s < 20) (ht : t < 20) (G : Nat → Bool) (hG : ∀ r, G r = sm_any (R.2.1 r - 1) 0 (fun i => sm_gs T R S F r i s t)) : ∀ l r fu m, r + l = R.1 → l < fu → sm_p n T R S F m0 m → sm_ok (f_M_areAgainst_2 fu (sm_n s) (sm_n t) (sm_n r) m) (sm_b2 (sm_any l r G)) (sm_p n T R S F m0)
  | 0, r, fu + 1, m, h1, h3, hq => by
    have xR := hq.1.2.2.2.1
    have h5 := xR.2.1
    unfold f_M_areAgainst_2
    rw [xR.1, if_pos (by simp (disch := omega) only [sm_lit, sm_nlt, sm_nle, sm_neq, sm_n_add, sm_n_mul, sm_n_div, sm_n_rem, sm_bi, sm_bl, sm_bv, sm_let, sm_zz0, sm_zz1, sm_ai, sm_si, sm_al, sm_sl, sm_ar, sm_mi1, sm_mi0, sm_ml1, sm_ml0, sm_mil, sm_mli]; omega)]
    exact sm_okr hq
  | l + 1, r, fu + 1, m, h1, h3, hq => by
    have xR := hq.1.2.2.2.1
    have h5 := xR.2.1
    obtain ⟨a, b, c, d⟩ := xR.2.2 r (by omega)
    obtain ⟨m1, hq1, e1⟩ := m_aa13 (show r < R.1 by omega) hs ht (f_M_areAgainst_2 fu) _ (fun _ => rfl) (R.2.1 r - 1) 0 gk_fv m (by omega) (by rw [gk_fv_eq]; omega) hq
    unfold f_M_areAgainst_2
    rw [xR.1, if_neg (by simp (disch := omega) only [sm_lit, sm_nlt, sm_nle, sm_neq, sm_n_add, sm_n_mul, sm_n_div, sm_n_rem, sm_bi, sm_bl, sm_bv, sm_let, sm_zz0, sm_zz1, sm_ai, sm_si, sm_al, sm_sl, sm_ar, sm_mi1, sm_mi0, sm_ml1, sm_ml0, sm_mil, sm_mli]; omega), show f_M_areAgainst_13 (f_M_areAgainst_2 fu) gk_fv (sm_n s) (sm_n t) (sm_n r) 0 m = _ from e1]
    cases hc : sm_any (R.2.1 r - 1) 0 (fun i => sm_gs T R S F r i s t) with
    | true =>
      rw [sm_anyt ((hG r).trans hc), if_pos rfl]
      exact sm_okr hq1
    | false =>
      rw [sm_anyf ((hG r).trans hc), if_neg Bool.false_ne_true]
      exact m_aa2 hs ht G hG l (r + 1) fu m1 (by omega) (by omega) hq1
theorem m_areAgainst {s t : Nat} (hs : s < 20) (ht : t < 20) (hq : sm_p n T R S F m0 m) : sm_ok (f_M_areAgainst (sm_n s) (sm_n t) m) (sm_b2 (sm_ag T R S F s t)) (sm_p n T R S F m0) :=
  m_aa2 hs ht _ (fun _ => rfl) R.1 0 gk_fv m (by omega) (by have := hq.1.2.2.2.1.2.1; rw [gk_fv_eq]; omega) hq
def sm_ga' (T : Nat → sm_tw) (R : sm_rd) (S : sm_fs) (F : sm_lf) (t u : Nat) : Bool := !(u == t) && sm_ag T R S F t u
theorem sm_rw_up {c s v : Nat} {P : Nat → Nat} {m : gk_M} (h : sm_rw c P m) : sm_rw c (sm_up P s v) (gk_mi m c s (sm_n v)) := by
  intro j hj
  by_cases e : j = s
  · subst e; rw [sm_up1, sm_mi1]
  · rw [sm_up0 e, sm_mi0 (fun z => e z.2)]; exact h j hj
theorem sm_pm_14 {s : Nat} {v : Int32} (hq : sm_pm n T R S F m0 m) : sm_pm n T R S F m0 (gk_mi m 14 s v) :=
  ⟨sm_M_fr (by intro k j h; unfold sm_fM at h; simp (disch := omega) only [sm_mi0, sm_mil, sm_mli]) hq.1, fun k j a b d => by rw [sm_mi0 (fun z => d z.1)]; exact hq.2.1 k j a b d, hq.2.2⟩
theorem m_fa19 {t : Nat} (ht : t < n) (k2 : Int32 → gk_M → Option (Unit × gk_M)) : ∀ l u fu P m, u + l = n → l < fu → sm_pm n T R S F m0 m → sm_rw 14 P m → ∃ m', sm_pm n T R S F m0 m' ∧ sm_rw 14 (sm_up P t (sm_qs (sm_ga' T R S F t) l u (P t))) m' ∧ f_M_findAgainst_19 k2 fu (sm_n t) (sm_n u) m = k2 (sm_n (t + 1)) m'
  | 0, u, fu + 1, P, m, h1, h3, hq, hP => by
    have hn := hq.1.2.1
    refine ⟨m, hq, ?_, ?_⟩
    · intro j hj
      by_cases e : j = t
      · subst e; rw [sm_up1]; exact hP j hj
      · rw [sm_up0 e]; exact hP j hj
    · unfold f_M_findAgainst_19
      rw [hq.1.1, if_pos (by simp (disch := omega) only [sm_lit, sm_nlt, sm_nle, sm_neq, sm_n_add, sm_n_mul, sm_n_div, sm_n_rem, sm_bi, sm_bl, sm_bv, sm_let, sm_zz0, sm_zz1, sm_ai, sm_si, sm_al, sm_sl, sm_ar, sm_mi1, sm_mi0, sm_ml1, sm_ml0, sm_mil, sm_mli]; omega), show sm_n t + 1 = sm_n (t + 1) from sm_n_add t 1]
  | l + 1, u, fu + 1, P, m, h1, h3, hq, hP => by
    have hn := hq.1.2.1
    have e2 : sm_qs (sm_ga' T R S F t) (l + 1) u (P t) = sm_qs (sm_ga' T R S F t) l (u + 1) (if sm_ga' T R S F t u = true then P t ||| 2 ^ u else P t) := rfl
    unfold f_M_findAgainst_19 f_M_findAgainst_54 f_M_findAgainst_55
    rw [hq.1.1, if_neg (by simp (disch := omega) only [sm_lit, sm_nlt, sm_nle, sm_neq, sm_n_add, sm_n_mul, sm_n_div, sm_n_rem, sm_bi, sm_bl, sm_bv, sm_let, sm_zz0, sm_zz1, sm_ai, sm_si, sm_al, sm_sl, sm_ar, sm_mi1, sm_mi0, sm_ml1, sm_ml0, sm_mil, sm_mli]; omega), sm_ai (by omega) (by omega), hP t (by omega), show sm_n u + 1 = sm_n (u + 1) from sm_n_add u 1, e2, show sm_n (P t) ||| (0 : Int32) = sm_n (P t) from (sm_bor (P t) 0).trans (by rw [Nat.or_zero])]
    have go : ∀ v m1, sm_pm n T R S F m0 m1 → sm_rw 14 P m1 → ∃ m', sm_pm n T R S F m0 m' ∧ sm_rw 14 (sm_up P t (sm_qs (sm_ga' T R S F t) l (u + 1) v)) m' ∧ f_M_findAgainst_19 k2 fu (sm_n t) (sm_n (u + 1)) (gk_mi m1 14 t (sm_n v)) = k2 (sm_n (t + 1)) m' := by
      intro v m1 q1 P1
      obtain ⟨m3, q3, P3, e3⟩ := m_fa19 ht k2 l (u + 1) fu _ _ (by omega) (by omega) (sm_pm_14 (s := t) (v := sm_n v) q1) (sm_rw_up (s := t) (v := v) P1)
      refine ⟨m3, q3, ?_, e3⟩
      rw [sm_up1] at P3
      intro j hj
      have := P3 j hj
      by_cases e : j = t
      · subst e; rw [sm_up1] at this ⊢; exact this
      · rw [sm_up0 e, sm_up0 e] at this; rw [sm_up0 e]; exact this
    by_cases hut : u = t
    · rw [if_pos (show sm_n u = sm_n t by rw [hut]), sm_si (by omega) (by omega), if_neg (show ¬ sm_ga' T R S F t u = true by unfold sm_ga'; rw [hut]; simp)]
      exact go _ m hq hP
    · obtain ⟨m1, e1, q1⟩ := m_areAgainst (s := t) (t := u) (by omega) (by omega) (sm_p0 hq.1)
      have hq1 : sm_pm n T R S F m0 m1 := ⟨q1.1, fun k j a b d => (q1.2.1 k j a b).trans (hq.2.1 k j a b d), fun k j a => (q1.2.2 k j a).trans (hq.2.2 k j a)⟩
      have hP1 : sm_rw 14 P m1 := fun j hj => (q1.2.1 14 j (by decide) (fun z => absurd z.1 (by decide))).trans (hP j hj)
      have hga : sm_ga' T R S F t u = sm_ag T R S F t u := by unfold sm_ga'; rw [beq_eq_false_iff_ne.mpr hut]; rfl
      rw [if_neg (show ¬ sm_n u = sm_n t by rw [sm_neq (by omega) (by omega)]; exact hut), e1, sm_bi, hga]
      cases hc : sm_ag T R S F t u with
      | false =>
        rw [if_pos (show sm_b2 false = 0 from rfl), sm_si (by omega) (by omega), if_neg Bool.false_ne_true]
        exact go _ m1 hq1 hP1
      | true =>
        rw [if_neg (show ¬ sm_b2 true = 0 by decide), sm_shl (by omega), sm_bor, sm_si (by omega) (by omega), if_pos rfl]
        exact go _ m1 hq1 hP1
theorem m_fa2 : ∀ l t fu P m, t + l = n → l < fu → sm_pm n T R S F m0 m → sm_rw 14 P m → ∃ m', sm_pm n T R S F m0 m' ∧ sm_rw 14 (fun j => if t ≤ j ∧ j < n then sm_qs (sm_ga' T R S F j) n 0 0 else P j) m' ∧ f_M_findAgainst_2 fu (sm_n t) m = some ((), m')
  | 0, t, fu + 1, P, m, h1, h3, hq, hP => by
    have hn := hq.1.2.1
    refine ⟨m, hq, ?_, ?_⟩
    · intro j hj
      show m.1 14 j = sm_n (if t ≤ j ∧ j < n then _ else P j)
      rw [if_neg (by omega)]
      exact hP j hj
    · unfold f_M_findAgainst_2
      rw [hq.1.1, if_pos (by simp (disch := omega) only [sm_lit, sm_nlt, sm_nle, sm_neq, sm_n_add, sm_n_mul, sm_n_div, sm_n_rem, sm_bi, sm_bl, sm_bv, sm_let, sm_zz0, sm_zz1, sm_ai, sm_si, sm_al, sm_sl, sm_ar, sm_mi1, sm_mi0, sm_ml1, sm_ml0, sm_mil, sm_mli]; omega)]
  | l + 1, t, fu + 1, P, m, h1, h3, hq, hP => by
    have hn := hq.1.2.1
    obtain ⟨m1, q1, P1, e1⟩ := m_fa19 (show t < n by omega) (f_M_findAgainst_2 fu) n 0 gk_fv _ _ (by omega) (by rw [gk_fv_eq]; omega) (sm_pm_14 (s := t) (v := sm_n 0) hq) (sm_rw_up (s := t) (v := 0) hP)
    obtain ⟨m2, q2, P2, e2⟩ := m_fa2 l (t + 1) fu _ m1 (by omega) (by omega) q1 P1
    refine ⟨m2, q2, ?_, ?_⟩
    · intro j hj
      have hp : m2.1 14 j = sm_n (if t + 1 ≤ j ∧ j < n then sm_qs (sm_ga' T R S F j) n 0 0 else sm_up (sm_up P t 0) t (sm_qs (sm_ga' T R S F t) n 0 (sm_up P t 0 t)) j) := P2 j hj
      show m2.1 14 j = sm_n (if t ≤ j ∧ j < n then sm_qs (sm_ga' T R S F j) n 0 0 else P j)
      rw [hp]
      by_cases e : j = t
      · subst e
        rw [if_neg (by omega), if_pos (by omega), sm_up1, sm_up1]
      · by_cases e2 : t ≤ j ∧ j < n
        · rw [if_pos (by omega), if_pos e2]
        · rw [if_neg (by omega), if_neg e2, sm_up0 e, sm_up0 e]
    · unfold f_M_findAgainst_2
      rw [hq.1.1, if_neg (by simp (disch := omega) only [sm_lit, sm_nlt, sm_nle, sm_neq, sm_n_add, sm_n_mul, sm_n_div, sm_n_rem, sm_bi, sm_bl, sm_bv, sm_let, sm_zz0, sm_zz1, sm_ai, sm_si, sm_al, sm_sl, sm_ar, sm_mi1, sm_mi0, sm_ml1, sm_ml0, sm_mil, sm_mli]; omega), sm_si (by omega) (by omega), show f_M_findAgainst_19 (f_M_findAgainst_2 fu) gk_fv (sm_n t) 0 (gk_mi m 14 t 0) = _ from e1]
      exact e2
end AGM
