/-! SIM: what goes, and its price -/
theorem sm_Qr_lt {n : Nat} (hn : n ≤ 10) (T : Nat → sm_tw) (R : sm_rd) (S : sm_fs) (F : sm_lf) (j : Nat) : sm_Qr n T R S F j < 1024 := by
  unfold sm_Qr
  split
  · exact sm_qs_lt _ _ _ _ (by omega) (by omega)
  · omega
theorem sm_Qr_bit {n : Nat} (T : Nat → sm_tw) (R : sm_rd) (S : sm_fs) (F : sm_lf) {t : Nat} (ht : t < n) (u : Nat) : (sm_Qr n T R S F t).testBit u = true ↔ t < u ∧ u < n ∧ sm_ag T R S F t u = true := by
  unfold sm_Qr
  rw [if_pos ht, sm_qs_bit, Nat.zero_testBit, Bool.false_or, Bool.and_eq_true, decide_eq_true_eq, decide_eq_true_eq, sm_gop_ag]
  constructor
  · rintro ⟨⟨a, b⟩, c⟩; exact ⟨by omega, by omega, c⟩
  · rintro ⟨a, b, c⟩; exact ⟨⟨by omega, by omega⟩, c⟩
theorem sm_A_bit {n : Nat} (T : Nat → sm_tw) (R : sm_rd) (S : sm_fs) (F : sm_lf) (t u : Nat) : (sm_qs (sm_ga' T R S F t) n 0 0).testBit u = true ↔ u ≠ t ∧ u < n ∧ sm_ag T R S F t u = true := by
  rw [sm_qs_bit, Nat.zero_testBit, Bool.false_or, Bool.and_eq_true, decide_eq_true_eq]
  unfold sm_ga'
  rw [Bool.and_eq_true, Bool.not_eq_true', beq_eq_false_iff_ne]
  constructor
  · rintro ⟨⟨_, a⟩, b, c⟩; exact ⟨b, by omega, c⟩
  · rintro ⟨a, b, c⟩; exact ⟨⟨Nat.zero_le u, by omega⟩, a, c⟩
theorem sm_pe_eq {n g : Nat} {T : Nat → sm_tw} {R : sm_rd} {S : sm_fs} {F : sm_lf} (hn : n ≤ 10) (hd : sm_dis n T) {A : Nat → Nat} (hA : ∀ t, t < n → A t = sm_qs (sm_ga' T R S F t) n 0 0) : sm_pe n (sm_Qr n T R S F) g = sm_pe n A g := by
  rw [Bool.eq_iff_iff, sm_pe_iff (fun t _ => sm_Qr_lt hn T R S F t), sm_pe_iff (fun t ht => by rw [hA t ht]; exact sm_qs_lt _ _ _ _ (by omega) (by omega))]
  constructor
  · intro h t ht hgt u hu
    rw [hA t ht, sm_A_bit] at hu
    obtain ⟨h1, h2, h3⟩ := hu
    by_cases e : t < u
    · exact h t ht hgt u ((sm_Qr_bit T R S F ht u).mpr ⟨e, h2, h3⟩)
    · by_cases hgu : g.testBit u = true
      · exact hgu
      · exact absurd (h u h2 hgu t ((sm_Qr_bit T R S F h2 t).mpr ⟨by omega, ht, by rw [sm_ag_sym hd h2 ht h1]; exact h3⟩)) hgt
  · intro h t ht hgt u hu
    obtain ⟨h1, h2, h3⟩ := (sm_Qr_bit T R S F ht u).mp hu
    refine h t ht hgt u ?_
    rw [hA t ht, sm_A_bit]
    exact ⟨by omega, h2, h3⟩
/-- the price of a set: w 1: by price; w 0: by number -/
def sm_pr (p : Nat → Nat) (w g t : Nat) : Nat := if g.testBit t = true then (if w = 0 then 1 else p t) else 0
theorem x_priceOf4 {m : gk_M} {n g : Nat} {p : Nat → Nat} (h5 : m.1 7 5 = sm_n n) (hn : n ≤ 10) (hg : g < 1024) (hp : ∀ t, t < n → m.1 11 t = sm_n (p t)) : ∀ l t fu acc, t + l = n → l < fu → f_Planner_priceOf_4 fu (sm_n g) (sm_n acc) (sm_n t) m = some (sm_n (acc + sm_sum l t (sm_pr p 1 g)), m)
  | 0, t, fu + 1, acc, h1, h3 => by
    unfold f_Planner_priceOf_4
    rw [h5, if_pos (by simp (disch := omega) only [sm_lit, sm_nlt, sm_nle, sm_neq, sm_n_add, sm_n_mul, sm_n_div, sm_n_rem, sm_bi, sm_bl, sm_bv, sm_let, sm_zz0, sm_zz1, sm_ai, sm_si, sm_al, sm_sl, sm_ar, sm_mi1, sm_mi0, sm_ml1, sm_ml0, sm_mil, sm_mli]; omega)]
    rfl
  | l + 1, t, fu + 1, acc, h1, h3 => by
    have e : acc + sm_sum (l + 1) t (sm_pr p 1 g) = acc + sm_pr p 1 g t + sm_sum l (t + 1) (sm_pr p 1 g) := by rw [Nat.add_assoc]; rfl
    unfold f_Planner_priceOf_4
    rw [h5, if_neg (by simp (disch := omega) only [sm_lit, sm_nlt, sm_nle, sm_neq, sm_n_add, sm_n_mul, sm_n_div, sm_n_rem, sm_bi, sm_bl, sm_bv, sm_let, sm_zz0, sm_zz1, sm_ai, sm_si, sm_al, sm_sl, sm_ar, sm_mi1, sm_mi0, sm_ml1, sm_ml0, sm_mil, sm_mli]; omega), sm_bit (by omega) (by omega), show sm_n t + 1 = sm_n (t + 1) from sm_n_add t 1, e]
    cases hb : g.testBit t with
    | true =>
      rw [if_pos rfl, if_neg (show ¬ sm_n 1 = 0 by decide), sm_ai (by omega) (by omega), hp t (by omega), sm_let, sm_n_add, show sm_pr p 1 g t = p t by unfold sm_pr; rw [if_pos hb]; rfl]
      exact x_priceOf4 h5 hn hg hp l (t + 1) fu _ (by omega) (by omega)
    | false =>
      rw [if_neg Bool.false_ne_true, if_pos (show sm_n 0 = 0 from rfl), show sm_pr p 1 g t = 0 by unfold sm_pr; rw [hb]; rfl]
      exact x_priceOf4 h5 hn hg hp l (t + 1) fu _ (by omega) (by omega)
theorem m_priceOf5 {m : gk_M} {n g w : Nat} {p : Nat → Nat} (h5 : m.1 0 6 = sm_n n) (hn : n ≤ 10) (hg : g < 1024) (hw : w < 2) (hp : ∀ t, t < n → m.1 1 (10 + t) = sm_n (p t)) : ∀ l t fu acc, t + l = n → l < fu → f_M_priceOf_5 fu (sm_n g) (sm_n (1 - w)) (sm_n acc) (sm_n t) m = some (sm_n (acc + sm_sum l t (sm_pr p w g)), m)
  | 0, t, fu + 1, acc, h1, h3 => by
    unfold f_M_priceOf_5
    rw [h5, if_pos (by simp (disch := omega) only [sm_lit, sm_nlt, sm_nle, sm_neq, sm_n_add, sm_n_mul, sm_n_div, sm_n_rem, sm_bi, sm_bl, sm_bv, sm_let, sm_zz0, sm_zz1, sm_ai, sm_si, sm_al, sm_sl, sm_ar, sm_mi1, sm_mi0, sm_ml1, sm_ml0, sm_mil, sm_mli]; omega)]
    rfl
  | l + 1, t, fu + 1, acc, h1, h3 => by
    have e : acc + sm_sum (l + 1) t (sm_pr p w g) = acc + sm_pr p w g t + sm_sum l (t + 1) (sm_pr p w g) := by rw [Nat.add_assoc]; rfl
    unfold f_M_priceOf_5 f_M_priceOf_46
    rw [h5, if_neg (by simp (disch := omega) only [sm_lit, sm_nlt, sm_nle, sm_neq, sm_n_add, sm_n_mul, sm_n_div, sm_n_rem, sm_bi, sm_bl, sm_bv, sm_let, sm_zz0, sm_zz1, sm_ai, sm_si, sm_al, sm_sl, sm_ar, sm_mi1, sm_mi0, sm_ml1, sm_ml0, sm_mil, sm_mli]; omega), sm_bit (by omega) (by omega), show sm_n t + 1 = sm_n (t + 1) from sm_n_add t 1, e]
    cases hb : g.testBit t with
    | true =>
      rw [if_pos rfl, if_pos (show ¬ sm_n 1 = 0 by decide)]
      by_cases hw0 : w = 0
      · rw [if_neg (show ¬ sm_n (1 - w) = 0 by rw [hw0]; decide), sm_let, show sm_n acc + 1 = sm_n (acc + 1) from sm_n_add acc 1, show sm_pr p w g t = 1 by unfold sm_pr; rw [if_pos hb, if_pos hw0]]
        exact m_priceOf5 h5 hn hg hw hp l (t + 1) fu _ (by omega) (by omega)
      · rw [if_pos (show sm_n (1 - w) = 0 by rw [show 1 - w = 0 by omega]; rfl), show (10 : Int32) + sm_n t = sm_n (10 + t) from sm_n_add 10 t, sm_ai (by omega) (by omega), hp t (by omega), sm_let, sm_n_add, show sm_pr p w g t = p t by unfold sm_pr; rw [if_pos hb, if_neg hw0]]
        exact m_priceOf5 h5 hn hg hw hp l (t + 1) fu _ (by omega) (by omega)
    | false =>
      rw [if_neg Bool.false_ne_true, if_neg (show ¬ ¬ sm_n 0 = 0 from fun z => z rfl), sm_let, show sm_n acc + 0 = sm_n (acc + 0) from sm_n_add acc 0, show sm_pr p w g t = 0 by unfold sm_pr; rw [hb]; rfl]
      exact m_priceOf5 h5 hn hg hw hp l (t + 1) fu _ (by omega) (by omega)
