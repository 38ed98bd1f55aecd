/-! SIM: whether what is left keeps the peace -/
def sm_pe (n : Nat) (P : Nat → Nat) (g : Nat) : Bool := !sm_any n 0 (fun t => !(g.testBit t) && decide (¬ sm_n (P t) &&& (sm_n g ^^^ (-1)) = 0))
theorem x_lp {m : gk_M} {n g : Nat} {P : Nat → Nat} (h5 : m.1 7 5 = sm_n n) (hn : n ≤ 10) (hg : g < 1024) (hP : sm_rw 22 P m) (h : Nat → Bool) (hh : ∀ t, h t = (!(g.testBit t) && decide (¬ sm_n (P t) &&& (sm_n g ^^^ (-1)) = 0))) : ∀ l t fu, t + l = n → l < fu → f_Planner_leavesPeace_2 fu (sm_n g) (sm_n t) m = some (sm_b2 (!sm_any l t h), m)
  | 0, t, fu + 1, h1, h3 => by
    unfold f_Planner_leavesPeace_2
    rw [h5, if_pos (by simp (disch := omega) only [sm_lit, sm_nlt, sm_nle, sm_neq, sm_n_add, sm_n_mul, sm_n_div, sm_n_rem, sm_bi, sm_bl, sm_bv, sm_let, sm_zz0, sm_zz1, sm_ai, sm_si, sm_al, sm_sl, sm_ar, sm_mi1, sm_mi0, sm_ml1, sm_ml0, sm_mil, sm_mli]; omega)]
    rfl
  | l + 1, t, fu + 1, h1, h3 => by
    have ht := hh t
    unfold f_Planner_leavesPeace_2
    rw [h5, if_neg (by simp (disch := omega) only [sm_lit, sm_nlt, sm_nle, sm_neq, sm_n_add, sm_n_mul, sm_n_div, sm_n_rem, sm_bi, sm_bl, sm_bv, sm_let, sm_zz0, sm_zz1, sm_ai, sm_si, sm_al, sm_sl, sm_ar, sm_mi1, sm_mi0, sm_ml1, sm_ml0, sm_mil, sm_mli]; omega), sm_bit (by omega) (by omega), show sm_n t + 1 = sm_n (t + 1) from sm_n_add t 1]
    cases hb : g.testBit t with
    | true =>
      rw [hb] at ht
      rw [if_pos rfl, if_pos (show ¬ sm_n 1 = 0 by decide), sm_anyf (ht.trans rfl)]
      exact x_lp h5 hn hg hP h hh l (t + 1) fu (by omega) (by omega)
    | false =>
      rw [hb] at ht
      rw [if_neg Bool.false_ne_true, if_neg (show ¬ ¬ sm_n 0 = 0 from fun z => z rfl), sm_ai (by omega) (by omega), hP t (by omega)]
      by_cases hz : sm_n (P t) &&& (sm_n g ^^^ (-1)) = 0
      · rw [if_pos hz, sm_anyf (ht.trans (by rw [decide_eq_false (fun z => z hz)]; rfl))]
        exact x_lp h5 hn hg hP h hh l (t + 1) fu (by omega) (by omega)
      · rw [if_neg hz, sm_anyt (ht.trans (by rw [decide_eq_true hz]; rfl))]
        rfl
theorem x_leavesPeace {m : gk_M} {n g : Nat} {P : Nat → Nat} (h5 : m.1 7 5 = sm_n n) (hn : n ≤ 10) (hg : g < 1024) (hP : sm_rw 22 P m) : f_Planner_leavesPeace (sm_n g) m = some (sm_b2 (sm_pe n P g), m) :=
  x_lp h5 hn hg hP _ (fun _ => rfl) n 0 gk_fv (by omega) (by rw [gk_fv_eq]; omega)
theorem m_lp {m : gk_M} {n g : Nat} {P : Nat → Nat} (h5 : m.1 0 6 = sm_n n) (hn : n ≤ 10) (hg : g < 1024) (hP : sm_rw 14 P m) (h : Nat → Bool) (hh : ∀ t, h t = (!(g.testBit t) && decide (¬ sm_n (P t) &&& (sm_n g ^^^ (-1)) = 0))) : ∀ l t fu, t + l = n → l < fu → f_M_isLawfulWithout_2 fu (sm_n g) (sm_n t) m = some (sm_b2 (!sm_any l t h), m)
  | 0, t, fu + 1, h1, h3 => by
    unfold f_M_isLawfulWithout_2
    rw [h5, if_pos (by simp (disch := omega) only [sm_lit, sm_nlt, sm_nle, sm_neq, sm_n_add, sm_n_mul, sm_n_div, sm_n_rem, sm_bi, sm_bl, sm_bv, sm_let, sm_zz0, sm_zz1, sm_ai, sm_si, sm_al, sm_sl, sm_ar, sm_mi1, sm_mi0, sm_ml1, sm_ml0, sm_mil, sm_mli]; omega)]
    rfl
  | l + 1, t, fu + 1, h1, h3 => by
    have ht := hh t
    unfold f_M_isLawfulWithout_2
    rw [h5, if_neg (by simp (disch := omega) only [sm_lit, sm_nlt, sm_nle, sm_neq, sm_n_add, sm_n_mul, sm_n_div, sm_n_rem, sm_bi, sm_bl, sm_bv, sm_let, sm_zz0, sm_zz1, sm_ai, sm_si, sm_al, sm_sl, sm_ar, sm_mi1, sm_mi0, sm_ml1, sm_ml0, sm_mil, sm_mli]; omega), sm_bit (by omega) (by omega), show sm_n t + 1 = sm_n (t + 1) from sm_n_add t 1]
    cases hb : g.testBit t with
    | true =>
      rw [hb] at ht
      rw [if_pos rfl, if_pos (show ¬ sm_n 1 = 0 by decide), sm_anyf (ht.trans rfl)]
      exact m_lp h5 hn hg hP h hh l (t + 1) fu (by omega) (by omega)
    | false =>
      rw [hb] at ht
      rw [if_neg Bool.false_ne_true, if_neg (show ¬ ¬ sm_n 0 = 0 from fun z => z rfl), sm_ai (by omega) (by omega), hP t (by omega)]
      by_cases hz : sm_n (P t) &&& (sm_n g ^^^ (-1)) = 0
      · rw [if_pos hz, sm_anyf (ht.trans (by rw [decide_eq_false (fun z => z hz)]; rfl))]
        exact m_lp h5 hn hg hP h hh l (t + 1) fu (by omega) (by omega)
      · rw [if_neg hz, sm_anyt (ht.trans (by rw [decide_eq_true hz]; rfl))]
        rfl
theorem m_isLawfulWithout {m : gk_M} {n g : Nat} {P : Nat → Nat} (h5 : m.1 0 6 = sm_n n) (hn : n ≤ 10) (hg : g < 1024) (hP : sm_rw 14 P m) : f_M_isLawfulWithout (sm_n g) m = some (sm_b2 (sm_pe n P g), m) :=
  m_lp h5 hn hg hP _ (fun _ => rfl) n 0 gk_fv (by omega) (by rw [gk_fv_eq]; omega)
theorem sm_pe_iff {n g : Nat} {P : Nat → Nat} (hP : ∀ t, t < n → P t < 1024) : sm_pe n P g = true ↔ ∀ t, t < n → ¬ g.testBit t = true → ∀ u, (P t).testBit u = true → g.testBit u = true := by
  unfold sm_pe
  rw [Bool.not_eq_true', Bool.eq_false_iff, ne_eq, sm_any_iff]
  constructor
  · intro h t ht hgt u hu
    by_cases z : ∀ u, (P t).testBit u = true → g.testBit u = true
    · exact z u hu
    · refine absurd ⟨t, Nat.zero_le t, by omega, ?_⟩ h
      have hgf : g.testBit t = false := by simpa using hgt
      show (!(g.testBit t) && decide (¬ sm_n (P t) &&& (sm_n g ^^^ (-1)) = 0)) = true
      rw [hgf, decide_eq_true (show ¬ sm_n (P t) &&& (sm_n g ^^^ (-1)) = 0 from fun y => z ((sm_andn (by have := hP t ht; omega)).mp y))]
      rfl
  · rintro h ⟨t, _, ht, hz⟩
    have hz : (!(g.testBit t) && decide (¬ sm_n (P t) &&& (sm_n g ^^^ (-1)) = 0)) = true := hz
    rw [Bool.and_eq_true, Bool.not_eq_true', decide_eq_true_eq] at hz
    exact hz.2 ((sm_andn (by have := hP t (by omega); omega)).mpr (h t (by omega) (by rw [hz.1]; exact Bool.false_ne_true)))
theorem sm_sum_pos {f : Nat → Nat} : ∀ {l i : Nat}, 0 < sm_sum l i f ↔ ∃ j, i ≤ j ∧ j < i + l ∧ 0 < f j
  | 0, i => by
    constructor
    · intro h; exact absurd h (Nat.lt_irrefl 0)
    · rintro ⟨j, h1, h2, _⟩; omega
  | l + 1, i => by
    have ih := sm_sum_pos (f := f) (l := l) (i := i + 1)
    constructor
    · intro h
      have h : 0 < f i + sm_sum l (i + 1) f := h
      by_cases z : 0 < f i
      · exact ⟨i, Nat.le_refl i, by omega, z⟩
      · obtain ⟨j, h1, h2, h3⟩ := ih.mp (by omega)
        exact ⟨j, by omega, by omega, h3⟩
    · rintro ⟨j, h1, h2, h3⟩
      show 0 < f i + sm_sum l (i + 1) f
      by_cases e : j = i
      · subst e; omega
      · have := ih.mpr ⟨j, by omega, by omega, h3⟩
        omega
theorem sm_gop_ag {T : Nat → sm_tw} {R : sm_rd} {S : sm_fs} {F : sm_lf} {s t : Nat} : 0 < sm_gop T R S F s t ↔ sm_ag T R S F s t = true := by
  unfold sm_gop sm_ag
  rw [sm_sum_pos, sm_any_iff]
  constructor
  · rintro ⟨r, h1, h2, h3⟩
    rw [sm_sum_pos] at h3
    obtain ⟨i, i1, i2, i3⟩ := h3
    refine ⟨r, h1, h2, sm_any_iff.mpr ⟨i, i1, i2, ?_⟩⟩
    unfold sm_c1 at i3
    split at i3
    · assumption
    · omega
  · rintro ⟨r, h1, h2, h3⟩
    rw [sm_any_iff] at h3
    obtain ⟨i, i1, i2, i3⟩ := h3
    refine ⟨r, h1, h2, sm_sum_pos.mpr ⟨i, i1, i2, ?_⟩⟩
    unfold sm_c1
    rw [if_pos i3]; omega
theorem sm_ag_sym {n : Nat} {T : Nat → sm_tw} {R : sm_rd} {S : sm_fs} {F : sm_lf} {s t : Nat} (hd : sm_dis n T) (hs : s < n) (ht : t < n) (h : s ≠ t) : sm_ag T R S F s t = sm_ag T R S F t s := by
  unfold sm_ag
  exact sm_any_cg (fun r _ _ => sm_any_cg (fun i _ _ => sm_gs_sym hd R S F r i hs ht h))
