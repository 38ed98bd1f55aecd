/-! SIM: put, shift, taken -/
def sm_srt (s : Nat) (v : Int64) : Int64 := if s = 0 then v.toInt32.toInt8.toInt32.toInt64 else if s = 1 then v.toInt32.toInt16.toInt32.toInt64 else if s = 2 then v.toInt32.toInt64 else if s = 3 then v else if v = 0 then 0 else 1
theorem x_narrowed {m : gk_M} {d s : Nat} (hs : s < 5) (h : m.1 (41 + d) 2 = sm_n s) (v : Int64) : f_Shelf_narrowed d v m = some (sm_srt s v, m) := by
  unfold f_Shelf_narrowed sm_srt
  simp only [h, sm_let]
  rcases (by omega : s = 0 ∨ s = 1 ∨ s = 2 ∨ s = 3 ∨ s = 4) with rfl | rfl | rfl | rfl | rfl
  · simp (disch := omega) only [sm_lit, sm_nlt, sm_nle, sm_neq, sm_n_add, sm_n_mul, sm_n_div, sm_n_rem, sm_bi, sm_bl, sm_bv, sm_let, sm_zz0, sm_zz1, sm_ai, sm_si, sm_al, sm_sl, sm_ar, sm_mi1, sm_mi0, sm_ml1, sm_ml0, sm_mil, sm_mli, sm_10, sm_00, sm_11, not_true_eq_false, not_false_eq_true, if_true, if_false, if_pos, if_neg]
  · simp (disch := omega) only [sm_lit, sm_nlt, sm_nle, sm_neq, sm_n_add, sm_n_mul, sm_n_div, sm_n_rem, sm_bi, sm_bl, sm_bv, sm_let, sm_zz0, sm_zz1, sm_ai, sm_si, sm_al, sm_sl, sm_ar, sm_mi1, sm_mi0, sm_ml1, sm_ml0, sm_mil, sm_mli, sm_10, sm_00, sm_11, not_true_eq_false, not_false_eq_true, if_true, if_false, if_pos, if_neg]
  · simp (disch := omega) only [sm_lit, sm_nlt, sm_nle, sm_neq, sm_n_add, sm_n_mul, sm_n_div, sm_n_rem, sm_bi, sm_bl, sm_bv, sm_let, sm_zz0, sm_zz1, sm_ai, sm_si, sm_al, sm_sl, sm_ar, sm_mi1, sm_mi0, sm_ml1, sm_ml0, sm_mil, sm_mli, sm_10, sm_00, sm_11, not_true_eq_false, not_false_eq_true, if_true, if_false, if_pos, if_neg]
  · simp (disch := omega) only [sm_lit, sm_nlt, sm_nle, sm_neq, sm_n_add, sm_n_mul, sm_n_div, sm_n_rem, sm_bi, sm_bl, sm_bv, sm_let, sm_zz0, sm_zz1, sm_ai, sm_si, sm_al, sm_sl, sm_ar, sm_mi1, sm_mi0, sm_ml1, sm_ml0, sm_mil, sm_mli, sm_10, sm_00, sm_11, not_true_eq_false, not_false_eq_true, if_true, if_false, if_pos, if_neg]
  · simp (disch := omega) only [sm_lit, sm_nlt, sm_nle, sm_neq, sm_n_add, sm_n_mul, sm_n_div, sm_n_rem, sm_bi, sm_bl, sm_bv, sm_let, sm_zz0, sm_zz1, sm_ai, sm_si, sm_al, sm_sl, sm_ar, sm_mi1, sm_mi0, sm_ml1, sm_ml0, sm_mil, sm_mli, sm_10, sm_00, sm_11, not_true_eq_false, not_false_eq_true, if_true, if_false, if_pos, if_neg]
    split <;> rfl
theorem m_asSort {s : Nat} (hs : s < 5) (v : Int64) (m : gk_M) : f_M_asSort (sm_n s) v m = some (sm_srt s v, m) := by
  unfold f_M_asSort sm_srt
  rcases (by omega : s = 0 ∨ s = 1 ∨ s = 2 ∨ s = 3 ∨ s = 4) with rfl | rfl | rfl | rfl | rfl
  · simp (disch := omega) only [sm_lit, sm_nlt, sm_nle, sm_neq, sm_n_add, sm_n_mul, sm_n_div, sm_n_rem, sm_bi, sm_bl, sm_bv, sm_let, sm_zz0, sm_zz1, sm_ai, sm_si, sm_al, sm_sl, sm_ar, sm_mi1, sm_mi0, sm_ml1, sm_ml0, sm_mil, sm_mli, sm_10, sm_00, sm_11, not_true_eq_false, not_false_eq_true, if_true, if_false, if_pos, if_neg]
  · simp (disch := omega) only [sm_lit, sm_nlt, sm_nle, sm_neq, sm_n_add, sm_n_mul, sm_n_div, sm_n_rem, sm_bi, sm_bl, sm_bv, sm_let, sm_zz0, sm_zz1, sm_ai, sm_si, sm_al, sm_sl, sm_ar, sm_mi1, sm_mi0, sm_ml1, sm_ml0, sm_mil, sm_mli, sm_10, sm_00, sm_11, not_true_eq_false, not_false_eq_true, if_true, if_false, if_pos, if_neg]
  · simp (disch := omega) only [sm_lit, sm_nlt, sm_nle, sm_neq, sm_n_add, sm_n_mul, sm_n_div, sm_n_rem, sm_bi, sm_bl, sm_bv, sm_let, sm_zz0, sm_zz1, sm_ai, sm_si, sm_al, sm_sl, sm_ar, sm_mi1, sm_mi0, sm_ml1, sm_ml0, sm_mil, sm_mli, sm_10, sm_00, sm_11, not_true_eq_false, not_false_eq_true, if_true, if_false, if_pos, if_neg]
  · simp (disch := omega) only [sm_lit, sm_nlt, sm_nle, sm_neq, sm_n_add, sm_n_mul, sm_n_div, sm_n_rem, sm_bi, sm_bl, sm_bv, sm_let, sm_zz0, sm_zz1, sm_ai, sm_si, sm_al, sm_sl, sm_ar, sm_mi1, sm_mi0, sm_ml1, sm_ml0, sm_mil, sm_mli, sm_10, sm_00, sm_11, not_true_eq_false, not_false_eq_true, if_true, if_false, if_pos, if_neg]
  · simp (disch := omega) only [sm_lit, sm_nlt, sm_nle, sm_neq, sm_n_add, sm_n_mul, sm_n_div, sm_n_rem, sm_bi, sm_bl, sm_bv, sm_let, sm_zz0, sm_zz1, sm_ai, sm_si, sm_al, sm_sl, sm_ar, sm_mi1, sm_mi0, sm_ml1, sm_ml0, sm_mil, sm_mli, sm_10, sm_00, sm_11, not_true_eq_false, not_false_eq_true, if_true, if_false, if_pos, if_neg]
    split <;> rfl
theorem sm_srt1 (v : Int64) : ∃ z : Int, -32768 ≤ z ∧ z ≤ 32767 ∧ sm_srt 1 v = sm_l z := by
  refine ⟨v.toInt32.toInt16.toInt, ?_, ?_, ?_⟩
  · exact v.toInt32.toInt16.le_toInt
  · have := v.toInt32.toInt16.toInt_lt; omega
  · show v.toInt32.toInt16.toInt32.toInt64 = _
    rw [sm_eql, Int32.toInt_toInt64, Int16.toInt_toInt32, sm_l_int]
    · have := v.toInt32.toInt16.le_toInt; omega
    · have := v.toInt32.toInt16.toInt_lt; omega
theorem c_put {mx mm : gk_M} (h : rl_ mx mm) (a b : Int32) (v : Int64) : sm_al2 mx mm (f_X_put a b v mx) (f_M_put a b v mm) := by
  obtain ⟨n, TX, TM, R, S, F, nb, hX, hM, hT, hP, hK, hS, hH, hB, hR, hD⟩ := id h
  unfold f_X_put f_M_put f_M_put_37 f_Shelf_setCell
  rcases sm_refuse hB.1 hD a b with ⟨w, h0, h1, h2⟩ | ⟨d, j, s, k, h1, h2, h3, h4, rfl, rfl, h5, h6, h7, h8, h9, h10, h11, h12⟩
  · simp only [h1, h2, sm_bi, if_neg h0, if_pos h0]
    exact sm_al_id h
  · simp only [h5, h6, sm_bi, sm_10, sm_00, sm_11, not_true_eq_false, not_false_eq_true, if_true, if_false]
    simp (disch := omega) only [sm_ar, sm_ai, h10, x_narrowed h3 h8, sm_bl, sm_sl, sm_bv]
    rw [show sm_n (50 + s) - 50 = sm_n s by rw [show (50 : Int32) = sm_n 50 from rfl, sm_n_sub (by omega)]; congr 1; omega, m_asSort h3, sm_bl]
    simp (disch := omega) only [sm_lit, sm_n_mul, sm_n_add, sm_sl]
    refine ⟨_, _, _, rfl, rfl, n, TX, TM, R, S, F, nb, sm_X_fr (by intro k j h; unfold sm_fX at h; simp (disch := omega) only [sm_mi0, sm_mil, sm_mli]) hX, sm_M_fr (by intro k j h; unfold sm_fM at h; simp (disch := omega) only [sm_mi0, sm_mil, sm_mli]) hM, hT, rl_pr_fr (by intro k j h; simp (disch := omega) only [sm_mi0, sm_mil, sm_mli]) (by intro k j h; simp (disch := omega) only [sm_mi0, sm_mil, sm_mli]) hP, rl_tape_fr (by intro k j h; simp (disch := omega) only [sm_mi0, sm_mil, sm_mli]) (by intro k j h; simp (disch := omega) only [sm_mi0, sm_mil, sm_mli]) hK, rl_sight_fr (by intro k j h; simp (disch := omega) only [sm_mi0, sm_mil, sm_mli]) (by intro k j h; simp (disch := omega) only [sm_mi0, sm_mil, sm_mli]) hS, rl_hist_fr (by intro k j h; simp (disch := omega) only [sm_mi0, sm_mil, sm_mli]) (by intro k j h; simp (disch := omega) only [sm_mi0, sm_mil, sm_mli]) (Nat.le_refl n) hH, rl_body_fr (by intro k j h; simp (disch := omega) only [sm_mi0, sm_mil, sm_mli]) (by intro k j h; simp (disch := omega) only [sm_mi0, sm_mil, sm_mli]) hB, rl_tr_fr (by intro k j h; simp (disch := omega) only [sm_mi0, sm_mil, sm_mli]) (by intro k j h; simp (disch := omega) only [sm_mi0, sm_mil, sm_mli]) hR, fun e he => ?_⟩
    by_cases ed : e = d
    · subst ed
      refine Or.inr (Or.inr ⟨s, k, h3, h4, h7, h8, h9, h10, h11, fun i hi => ?_⟩)
      by_cases ij : i = j
      · subst ij
        simp (disch := omega) only [sm_mi1, sm_mi0, sm_ml1, sm_ml0, sm_mil, sm_mli]
        refine ⟨trivial, ?_⟩
        rintro rfl
        exact sm_srt1 v
      · simp (disch := omega) only [sm_mi1, sm_mi0, sm_ml1, sm_ml0, sm_mil, sm_mli]
        exact h12 i hi
    · exact rl_s1_fr (Nat.le_refl nb) (by intros; rfl) (by intros; rfl) (by intro j; simp (disch := omega) only [sm_mi1, sm_mi0, sm_ml1, sm_ml0, sm_mil, sm_mli]) (by intro i hi; simp (disch := omega) only [sm_mi1, sm_mi0, sm_ml1, sm_ml0, sm_mil, sm_mli]) (hD e he)
theorem m_shift_150 (e j n : Nat) (he : e < 6) (hn : j + n ≤ 60) : ∀ l i fu m, i + l = n → l < fu → f_M_shift_150 fu (sm_n e) (sm_n j) (sm_n n) (sm_n i) m = some (sm_n n, (m.1, fun x y => if x = 25 ∧ 60 * e + j + i ≤ y ∧ y < 60 * e + j + n then m.2 26 (y - (60 * e + j)) else m.2 x y))
  | 0, i, fu + 1, m, hi, _ => by
    unfold f_M_shift_150
    rw [if_pos (by simp (disch := omega) only [sm_lit, sm_nlt, sm_nle, sm_neq, sm_n_add, sm_n_mul, sm_n_div, sm_n_rem, sm_bi, sm_bl, sm_bv, sm_let, sm_zz0, sm_zz1, sm_ai, sm_si, sm_al, sm_sl, sm_ar, sm_mi1, sm_mi0, sm_ml1, sm_ml0, sm_mil, sm_mli]; omega)]
    congr 2
    refine Prod.ext rfl (funext fun x => funext fun y => ?_)
    simp only
    rw [if_neg (by omega)]
  | l + 1, i, fu + 1, m, hi, hf => by
    unfold f_M_shift_150
    rw [if_neg (by simp (disch := omega) only [sm_lit, sm_nlt, sm_nle, sm_neq, sm_n_add, sm_n_mul, sm_n_div, sm_n_rem, sm_bi, sm_bl, sm_bv, sm_let, sm_zz0, sm_zz1, sm_ai, sm_si, sm_al, sm_sl, sm_ar, sm_mi1, sm_mi0, sm_ml1, sm_ml0, sm_mil, sm_mli]; omega)]
    simp (disch := omega) only [sm_lit, sm_al, sm_n_mul, sm_n_add, sm_sl]
    rw [m_shift_150 e j n he hn l (i + 1) fu _ (by omega) (by omega)]
    congr 2
    refine Prod.ext rfl (funext fun x => funext fun y => ?_)
    simp only [gk_ml]
    by_cases h1 : x = 25 ∧ 60 * e + j + (i + 1) ≤ y ∧ y < 60 * e + j + n
    · rw [if_pos h1, if_neg (by omega), if_pos (by omega)]
    · rw [if_neg h1]
      by_cases h2 : x = 25 ∧ y = 60 * e + j + i
      · rw [if_pos h2, if_pos (by omega)]
        obtain ⟨rfl, rfl⟩ := h2
        rw [show 60 * e + j + i - (60 * e + j) = i by omega]
      · rw [if_neg h2, if_neg (by omega)]
theorem m_shift_113 (d i0 e j n : Nat) (hd : d < 6) (he : e < 6) (hi0 : i0 + n ≤ 60) (hn : j + n ≤ 60) : ∀ l i fu m, i + l = n → l < fu → f_M_shift_113 fu (sm_n d) (sm_n i0) (sm_n e) (sm_n j) (sm_n n) (sm_n i) m = f_M_shift_150 gk_fv (sm_n e) (sm_n j) (sm_n n) (sm_n 0) (m.1, fun x y => if x = 26 ∧ i ≤ y ∧ y < n then m.2 25 (60 * d + i0 + y) else m.2 x y)
  | 0, i, fu + 1, m, hi, _ => by
    unfold f_M_shift_113
    rw [if_pos (by simp (disch := omega) only [sm_lit, sm_nlt, sm_nle, sm_neq, sm_n_add, sm_n_mul, sm_n_div, sm_n_rem, sm_bi, sm_bl, sm_bv, sm_let, sm_zz0, sm_zz1, sm_ai, sm_si, sm_al, sm_sl, sm_ar, sm_mi1, sm_mi0, sm_ml1, sm_ml0, sm_mil, sm_mli]; omega)]
    congr 1
    refine Prod.ext rfl (funext fun x => funext fun y => ?_)
    simp only
    rw [if_neg (by omega)]
  | l + 1, i, fu + 1, m, hi, hf => by
    unfold f_M_shift_113
    rw [if_neg (by simp (disch := omega) only [sm_lit, sm_nlt, sm_nle, sm_neq, sm_n_add, sm_n_mul, sm_n_div, sm_n_rem, sm_bi, sm_bl, sm_bv, sm_let, sm_zz0, sm_zz1, sm_ai, sm_si, sm_al, sm_sl, sm_ar, sm_mi1, sm_mi0, sm_ml1, sm_ml0, sm_mil, sm_mli]; omega)]
    simp (disch := omega) only [sm_lit, sm_al, sm_n_mul, sm_n_add, sm_sl]
    rw [m_shift_113 d i0 e j n hd he hi0 hn l (i + 1) fu _ (by omega) (by omega)]
    congr 1
    refine Prod.ext rfl (funext fun x => funext fun y => ?_)
    simp only [gk_ml]
    by_cases h1 : x = 26 ∧ i + 1 ≤ y ∧ y < n
    · rw [if_pos h1, if_neg (by omega), if_pos (by omega)]
    · rw [if_neg h1]
      by_cases h2 : x = 26 ∧ y = i
      · rw [if_pos h2, if_pos (by omega)]
        obtain ⟨rfl, rfl⟩ := h2
        rfl
      · rw [if_neg h2, if_neg (by omega)]
theorem x_spansN {m : gk_M} {d n : Nat} {a b : Nat} (ha : a < 2147483648) (hb : b < 2147483648) (hn : n ≤ 60) (h : m.1 (41 + d) 3 = sm_n n) : f_Shelf_spans d (sm_n a) (sm_n b) m = some (if a + b ≤ n then 1 else 0, m) := by
  unfold f_Shelf_spans
  rw [if_neg (sm_nn ha), if_neg (sm_nn hb), h]
  by_cases h2 : n < a
  · rw [if_pos (by simp (disch := omega) only [sm_lit, sm_nlt, sm_nle, sm_neq, sm_n_add, sm_n_mul, sm_n_div, sm_n_rem, sm_bi, sm_bl, sm_bv, sm_let, sm_zz0, sm_zz1, sm_ai, sm_si, sm_al, sm_sl, sm_ar, sm_mi1, sm_mi0, sm_ml1, sm_ml0, sm_mil, sm_mli]; exact h2), if_neg (by omega)]
  · rw [if_neg (by simp (disch := omega) only [sm_lit, sm_nlt, sm_nle, sm_neq, sm_n_add, sm_n_mul, sm_n_div, sm_n_rem, sm_bi, sm_bl, sm_bv, sm_let, sm_zz0, sm_zz1, sm_ai, sm_si, sm_al, sm_sl, sm_ar, sm_mi1, sm_mi0, sm_ml1, sm_ml0, sm_mil, sm_mli]; exact h2), sm_n_sub (by omega)]
    by_cases h3 : n - a < b
    · rw [if_pos (by simp (disch := omega) only [sm_lit, sm_nlt, sm_nle, sm_neq, sm_n_add, sm_n_mul, sm_n_div, sm_n_rem, sm_bi, sm_bl, sm_bv, sm_let, sm_zz0, sm_zz1, sm_ai, sm_si, sm_al, sm_sl, sm_ar, sm_mi1, sm_mi0, sm_ml1, sm_ml0, sm_mil, sm_mli]; exact h3), if_neg (by omega)]
    · rw [if_neg (by simp (disch := omega) only [sm_lit, sm_nlt, sm_nle, sm_neq, sm_n_add, sm_n_mul, sm_n_div, sm_n_rem, sm_bi, sm_bl, sm_bv, sm_let, sm_zz0, sm_zz1, sm_ai, sm_si, sm_al, sm_sl, sm_ar, sm_mi1, sm_mi0, sm_ml1, sm_ml0, sm_mil, sm_mli]; exact h3), if_pos (by omega)]
theorem x_spans0 {m : gk_M} {d : Nat} {i k : Int32} (h : i < 0 ∨ k < 0) : f_Shelf_spans d i k m = some (0, m) := by
  unfold f_Shelf_spans
  by_cases h0 : i < 0
  · rw [if_pos h0]
  · rw [if_neg h0, if_pos (h.resolve_left h0)]
theorem c_shift {mx mm : gk_M} (h : rl_ mx mm) (a i c j k : Int32) : sm_al2 mx mm (f_X_shift a i c j k mx) (f_M_shift a i c j k mm) := by
  obtain ⟨n, TX, TM, R, S, F, nb, hX, hM, hT, hP, hK, hS, hH, hB, hR, hD⟩ := id h
  have hb50 := hB.1
  unfold f_X_shift f_M_shift
  rw [x_isShelf, sm_bi, m_isShelf, sm_bi]
  rcases sm_u_cases a 6 (by omega) with ⟨e0, e1⟩ | ⟨d, hd, rfl, e1⟩
  · rw [if_pos e0, if_pos e0]; exact sm_al_id h
  rw [if_neg (show ¬ sm_u (sm_n d) 6 = 0 by rw [e1]; decide), if_neg (show ¬ sm_u (sm_n d) 6 = 0 by rw [e1]; decide), x_isShelf, sm_bi, m_isShelf, sm_bi]
  rcases sm_u_cases c 6 (by omega) with ⟨e0, e2⟩ | ⟨e, he, rfl, e2⟩
  · rw [if_neg (by simpa using e0), if_neg (by simpa using e0)]; exact sm_al_id h
  rw [if_pos (show ¬ sm_u (sm_n e) 6 = 0 by rw [e2]; decide), if_pos (show ¬ sm_u (sm_n e) 6 = 0 by rw [e2]; decide), sm_ar (n := d) hd (by omega), sm_ar (n := e) he (by omega), sm_ai (n := d) hd (by omega)]
  unfold f_Shelf_isEmpty
  rcases hD d hd with ⟨h1, h2, h3⟩ | ⟨b, h0, h1, h2, h3⟩ | ⟨s, n', h0, h1, h2, h3, h4, h5, h6, h7⟩
  · rw [if_neg (show ¬ ¬ mx.1 (41 + d) 1 = -1 by rw [h1]; decide), if_neg (show ¬ ¬ mx.1 (41 + d) 2 = -1 by rw [h2]; decide), sm_bi, if_pos (by decide), h3, if_pos (by decide)]
    exact sm_al_id h
  · rw [if_pos (show ¬ mx.1 (41 + d) 1 = -1 by rw [h1, sm_nm1 (by omega)]; exact id), sm_bi, if_neg (by decide), h3, if_neg (sm_nn (by omega)), sm_ai (n := e) he (by omega)]
    rcases hD e he with ⟨g1, g2, g3⟩ | ⟨b', g0, g1, g2, g3⟩ | ⟨s', m', g0, g1, g2, g3, g4, g5, g6, g7⟩
    · rw [if_neg (show ¬ ¬ mx.1 (41 + e) 1 = -1 by rw [g1]; decide), if_neg (show ¬ ¬ mx.1 (41 + e) 2 = -1 by rw [g2]; decide), sm_bi, if_neg (by decide), g3, if_neg (by decide)]
      exact sm_al_id h
    · rw [if_pos (show ¬ mx.1 (41 + e) 1 = -1 by rw [g1, sm_nm1 (by omega)]; exact id), sm_bi, if_pos rfl, g3, if_pos (sm_nn' (by omega)), sm_ai (n := d) hd (by omega), h3, if_pos (by simp (disch := omega) only [sm_lit, sm_nlt, sm_nle, sm_neq, sm_n_add, sm_n_mul, sm_n_div, sm_n_rem, sm_bi, sm_bl, sm_bv, sm_let, sm_zz0, sm_zz1, sm_ai, sm_si, sm_al, sm_sl, sm_ar, sm_mi1, sm_mi0, sm_ml1, sm_ml0, sm_mil, sm_mli]; omega)]
      unfold f_Shelf_isRow
      rw [if_pos h2, sm_bi, if_pos rfl]
      exact sm_al_id h
    · rw [if_neg (show ¬ ¬ mx.1 (41 + e) 1 = -1 by rw [g2]; decide), if_pos (show ¬ mx.1 (41 + e) 2 = -1 by rw [g3, sm_nm1 (by omega)]; exact id), sm_bi, if_pos rfl, g5, if_pos (sm_nn' (by omega)), sm_ai (n := d) hd (by omega), h3, if_pos (by simp (disch := omega) only [sm_lit, sm_nlt, sm_nle, sm_neq, sm_n_add, sm_n_mul, sm_n_div, sm_n_rem, sm_bi, sm_bl, sm_bv, sm_let, sm_zz0, sm_zz1, sm_ai, sm_si, sm_al, sm_sl, sm_ar, sm_mi1, sm_mi0, sm_ml1, sm_ml0, sm_mil, sm_mli]; omega)]
      unfold f_Shelf_isRow
      rw [if_pos h2, sm_bi, if_pos rfl]
      exact sm_al_id h
  · rw [if_neg (show ¬ ¬ mx.1 (41 + d) 1 = -1 by rw [h2]; decide), if_pos (show ¬ mx.1 (41 + d) 2 = -1 by rw [h3, sm_nm1 (by omega)]; exact id), sm_bi, if_neg (by decide), h5, if_neg (sm_nn (by omega)), sm_ai (n := e) he (by omega)]
    rcases hD e he with ⟨g1, g2, g3⟩ | ⟨b', g0, g1, g2, g3⟩ | ⟨s', m', g0, g1, g2, g3, g4, g5, g6, g7⟩
    · rw [if_neg (show ¬ ¬ mx.1 (41 + e) 1 = -1 by rw [g1]; decide), if_neg (show ¬ ¬ mx.1 (41 + e) 2 = -1 by rw [g2]; decide), sm_bi, if_neg (by decide), g3, if_neg (by decide)]
      exact sm_al_id h
    · rw [if_pos (show ¬ mx.1 (41 + e) 1 = -1 by rw [g1, sm_nm1 (by omega)]; exact id), sm_bi, if_pos rfl, g3, if_pos (sm_nn' (by omega)), sm_ai (n := d) hd (by omega), h5, if_neg (by simp (disch := omega) only [sm_lit, sm_nlt, sm_nle, sm_neq, sm_n_add, sm_n_mul, sm_n_div, sm_n_rem, sm_bi, sm_bl, sm_bv, sm_let, sm_zz0, sm_zz1, sm_ai, sm_si, sm_al, sm_sl, sm_ar, sm_mi1, sm_mi0, sm_ml1, sm_ml0, sm_mil, sm_mli]; omega), sm_ai (n := d) hd (by omega), sm_ai (n := e) he (by omega), h5, g3, if_neg (by simp (disch := omega) only [sm_lit, sm_nlt, sm_nle, sm_neq, sm_n_add, sm_n_mul, sm_n_div, sm_n_rem, sm_bi, sm_bl, sm_bv, sm_let, sm_zz0, sm_zz1, sm_ai, sm_si, sm_al, sm_sl, sm_ar, sm_mi1, sm_mi0, sm_ml1, sm_ml0, sm_mil, sm_mli]; omega)]
      unfold f_Shelf_isRowOf f_Shelf_isRow
      rw [if_neg (show ¬ mx.1 (41 + d) 2 = -1 by rw [h3, sm_nm1 (by omega)]; exact id), sm_bi, if_neg (by decide), if_pos g2, sm_bi, if_pos rfl, sm_bi, if_neg (by decide)]
      exact sm_al_id h
    · rw [if_neg (show ¬ ¬ mx.1 (41 + e) 1 = -1 by rw [g2]; decide), if_pos (show ¬ mx.1 (41 + e) 2 = -1 by rw [g3, sm_nm1 (by omega)]; exact id), sm_bi, if_pos rfl, g5, if_pos (sm_nn' (by omega)), sm_ai (n := d) hd (by omega), h5, if_neg (by simp (disch := omega) only [sm_lit, sm_nlt, sm_nle, sm_neq, sm_n_add, sm_n_mul, sm_n_div, sm_n_rem, sm_bi, sm_bl, sm_bv, sm_let, sm_zz0, sm_zz1, sm_ai, sm_si, sm_al, sm_sl, sm_ar, sm_mi1, sm_mi0, sm_ml1, sm_ml0, sm_mil, sm_mli]; omega), sm_ai (n := d) hd (by omega), sm_ai (n := e) he (by omega), h5, g5]
      unfold f_Shelf_isRowOf f_Shelf_isRow
      rw [if_neg (show ¬ mx.1 (41 + d) 2 = -1 by rw [h3, sm_nm1 (by omega)]; exact id), sm_bi, if_neg (by decide), if_neg (show ¬ mx.1 (41 + e) 2 = -1 by rw [g3, sm_nm1 (by omega)]; exact id), sm_bi, if_neg (by decide), g3, h3]
      by_cases hs : s' = s
      · subst hs
        rw [if_neg (show ¬ ¬ sm_n s' = sm_n s' from fun z => z rfl), sm_bi, if_pos (by decide), if_pos rfl]
        by_cases k0 : k < 0
        · rw [if_pos k0, x_spans0 (Or.inr k0), sm_bi, if_pos rfl]; exact sm_al_id h
        rw [if_neg k0]
        by_cases i0 : i < 0
        · rw [if_pos i0, x_spans0 (Or.inl i0), sm_bi, if_pos rfl]; exact sm_al_id h
        rw [if_neg i0]
        obtain ⟨k, hk, rfl⟩ := sm_get k0
        obtain ⟨i, hi, rfl⟩ := sm_get i0
        rw [x_spansN hi hk h1 h4, sm_bi]
        by_cases j0 : j < 0
        · rw [if_pos j0, x_spans0 (Or.inl j0), sm_bi, if_neg (show ¬ ¬ (0 : Int32) = 0 from fun z => z rfl)]
          split <;> exact sm_al_id h
        rw [if_neg j0, sm_ai (n := d) hd (by omega), h6]
        obtain ⟨j, hj, rfl⟩ := sm_get j0
        rw [x_spansN hj hk g1 g4, sm_bi]
        have e3 : sm_n n' - sm_n k < sm_n i ↔ ¬ i + k ≤ n' := by
          rw [sm_ni, sm_ni, sm_ni, sm_i_sub, sm_ilt (by omega) (by omega) (by omega) (by omega)]; omega
        have e4 : sm_n j ≤ sm_n m' - sm_n k ↔ j + k ≤ m' := by
          rw [sm_ni, sm_ni, sm_ni, sm_i_sub, sm_ile (by omega) (by omega) (by omega) (by omega)]; omega
        by_cases c1 : i + k ≤ n'
        · rw [if_pos c1, if_neg (show ¬ (1 : Int32) = 0 by decide), if_neg (show ¬ (sm_n n' - sm_n k < sm_n i) by rw [e3]; exact fun z => z c1), sm_ai (n := e) he (by omega), g6]
          by_cases c2 : j + k ≤ m'
          · rw [if_pos c2, if_pos (show ¬ (1 : Int32) = 0 by decide), if_pos (e4.mpr c2)]
            unfold gk_cl2
            rw [sm_ix hi, sm_ix hj, sm_ix hk, if_neg (by
              rintro (z | z | z | z | z)
              · exact sm_nn hi z
              · exact sm_nn hj z
              · exact sm_nn hk z
              · omega
              · omega)]
            rw [show (0 : Int32) = sm_n 0 from rfl, m_shift_113 d i e j k hd he (by omega) (by omega) k 0 gk_fv mm (by omega) (by rw [gk_fv_eq]; omega), m_shift_150 e j k he (by omega) k 0 gk_fv _ (by omega) (by rw [gk_fv_eq]; omega)]
            refine ⟨_, _, _, rfl, rfl, n, TX, TM, R, S, F, nb, sm_X_fr (by intros; rfl) hX, sm_M_fr (by intros; rfl) hM, hT, rl_pr_fr (by intros; rfl) (by intros; rfl) hP, rl_tape_fr (by intros; rfl) (by intros; rfl) hK, rl_sight_fr (by intros; rfl) (by intros; rfl) hS, rl_hist_fr (by intros; rfl) (by intros; rfl) (Nat.le_refl n) hH, rl_body_fr (by intros; rfl) (by intros; rfl) hB, rl_tr_fr (by intros; rfl) (by intros; rfl) hR, fun q hq => ?_⟩
            by_cases qe : q = e
            · subst qe
              refine Or.inr (Or.inr ⟨s', m', g0, g1, g2, g3, g4, g5, g6, fun y hy => ?_⟩)
              show (if 47 + q = 47 + q then va_cpy (mx.2 (47 + d)) (mx.2 (47 + q)) i j k else mx.2 (47 + q)) y = (if 25 = 25 ∧ 60 * q + j + 0 ≤ 60 * q + y ∧ 60 * q + y < 60 * q + j + k then (if 26 = 26 ∧ 0 ≤ 60 * q + y - (60 * q + j) ∧ 60 * q + y - (60 * q + j) < k then mm.2 25 (60 * d + i + (60 * q + y - (60 * q + j))) else mm.2 26 (60 * q + y - (60 * q + j))) else (if 25 = 26 ∧ 0 ≤ 60 * q + y ∧ 60 * q + y < k then mm.2 25 (60 * d + i + (60 * q + y)) else mm.2 25 (60 * q + y))) ∧ (s' = 1 → ∃ z : Int, -32768 ≤ z ∧ z ≤ 32767 ∧ (if 47 + q = 47 + q then va_cpy (mx.2 (47 + d)) (mx.2 (47 + q)) i j k else mx.2 (47 + q)) y = sm_l z)
              rw [if_pos rfl]
              unfold va_cpy
              by_cases yy : j ≤ y ∧ y < j + k
              · rw [if_pos yy, if_pos (by omega), if_pos (by omega), show 60 * d + i + (60 * q + y - (60 * q + j)) = 60 * d + (i + (y - j)) by omega]
                exact h7 _ (by omega)
              · rw [if_neg yy, if_neg (by omega), if_neg (by omega)]
                exact g7 y hy
            · refine rl_s1_fr (Nat.le_refl nb) (by intros; rfl) (by intros; rfl) ?_ ?_ (hD q hq)
              · intro y
                show (if 47 + q = 47 + e then _ else _ : Nat → Int64) y = _
                rw [if_neg (by omega)]
              · intro y hy
                dsimp only
                rw [if_neg (by omega), if_neg (by omega)]
          · rw [if_neg c2, if_neg (show ¬ ¬ (0 : Int32) = 0 from fun z => z rfl), if_neg (show ¬ (sm_n j ≤ sm_n m' - sm_n k) by rw [e4]; exact c2)]
            exact sm_al_id h
        · rw [if_neg c1, if_pos rfl, if_pos (by rw [e3]; exact c1)]
          exact sm_al_id h
      · rw [if_pos (by simp (disch := omega) only [sm_lit, sm_nlt, sm_nle, sm_neq, sm_n_add, sm_n_mul, sm_n_div, sm_n_rem, sm_bi, sm_bl, sm_bv, sm_let, sm_zz0, sm_zz1, sm_ai, sm_si, sm_al, sm_sl, sm_ar, sm_mi1, sm_mi0, sm_ml1, sm_ml0, sm_mil, sm_mli]; exact hs), sm_bi, if_neg (by decide), if_neg (by simp (disch := omega) only [sm_lit, sm_nlt, sm_nle, sm_neq, sm_n_add, sm_n_mul, sm_n_div, sm_n_rem, sm_bi, sm_bl, sm_bv, sm_let, sm_zz0, sm_zz1, sm_ai, sm_si, sm_al, sm_sl, sm_ar, sm_mi1, sm_mi0, sm_ml1, sm_ml0, sm_mil, sm_mli]; omega)]
        exact sm_al_id h
/-! kinds -/
def sm_abv (k : Nat) : Nat := if k = 3 then 2 else if k = 4 then 1 else if k = 5 then 3 else if k = 7 then 4 else 0
def sm_und : Nat → Nat → Nat → Bool
  | 0, _, _ => false
  | f + 1, k, t => if k = t then true else if k = 0 then false else sm_und f (sm_abv k) t
theorem sm_fv (k : Nat) (h : k ≤ 100000) : ∃ f, gk_fv = f + k := ⟨100000 - k, by rw [gk_fv_eq]; omega⟩
theorem x_under (m : gk_M) : ∀ f fu k t u, k < 8 → t < 8 → f < fu → u + f ≤ 8 → (k = 0 → 1 ≤ f) → (k = 1 ∨ k = 2 ∨ k = 6 → 2 ≤ f) → (k = 3 ∨ k = 4 → 3 ≤ f) → (k = 5 ∨ k = 7 → 4 ≤ f) → f_Ways_isUnder_4 fu (sm_n t) (sm_n k) (sm_n u) m = some (if sm_und f k t then 1 else 0, m)
  | 0, _, k, _, _, hk, _, _, _, h1, h2, h3, h4 => by omega
  | f + 1, fu + 1, k, t, u, hk, ht, hf, hu, h1, h2, h3, h4 => by
    unfold f_Ways_isUnder_4 sm_und
    rw [if_neg (by simp (disch := omega) only [sm_lit, sm_nlt, sm_nle, sm_neq, sm_n_add, sm_n_mul, sm_n_div, sm_n_rem, sm_bi, sm_bl, sm_bv, sm_let, sm_zz0, sm_zz1, sm_ai, sm_si, sm_al, sm_sl, sm_ar, sm_mi1, sm_mi0, sm_ml1, sm_ml0, sm_mil, sm_mli]; omega), if_neg (sm_nn (by omega))]
    by_cases e : k = t
    · subst e
      rw [if_neg (fun z => z rfl), if_pos rfl, if_pos rfl]
    · rw [if_pos (by simp (disch := omega) only [sm_lit, sm_nlt, sm_nle, sm_neq, sm_n_add, sm_n_mul, sm_n_div, sm_n_rem, sm_bi, sm_bl, sm_bv, sm_let, sm_zz0, sm_zz1, sm_ai, sm_si, sm_al, sm_sl, sm_ar, sm_mi1, sm_mi0, sm_ml1, sm_ml0, sm_mil, sm_mli]; exact e), if_neg e, show (sm_n u + 1 : Int32) = sm_n (u + 1) from sm_n_add u 1]
      by_cases k0 : k = 0
      · subst k0
        rw [if_pos rfl, if_neg (by decide), sm_at (by decide) (by decide), show tb_0.getD 0 0 = -1 from rfl]
        match fu, hf with
        | fu + 1, _ =>
          unfold f_Ways_isUnder_4
          by_cases u8 : u + 1 = 8
          · rw [if_pos (by simp (disch := omega) only [sm_lit, sm_nlt, sm_nle, sm_neq, sm_n_add, sm_n_mul, sm_n_div, sm_n_rem, sm_bi, sm_bl, sm_bv, sm_let, sm_zz0, sm_zz1, sm_ai, sm_si, sm_al, sm_sl, sm_ar, sm_mi1, sm_mi0, sm_ml1, sm_ml0, sm_mil, sm_mli]; omega)]
          · rw [if_neg (by simp (disch := omega) only [sm_lit, sm_nlt, sm_nle, sm_neq, sm_n_add, sm_n_mul, sm_n_div, sm_n_rem, sm_bi, sm_bl, sm_bv, sm_let, sm_zz0, sm_zz1, sm_ai, sm_si, sm_al, sm_sl, sm_ar, sm_mi1, sm_mi0, sm_ml1, sm_ml0, sm_mil, sm_mli]; omega), if_pos (by decide)]
      · rw [if_neg k0, sm_at (by show k < 8; exact hk) (by decide)]
        have e2 : tb_0.getD k 0 = sm_n (sm_abv k) := by
          rcases (by omega : k = 1 ∨ k = 2 ∨ k = 3 ∨ k = 4 ∨ k = 5 ∨ k = 6 ∨ k = 7) with rfl | rfl | rfl | rfl | rfl | rfl | rfl <;> rfl
        rw [e2]
        have e3 : sm_abv k < 8 ∧ (k = 1 ∨ k = 2 ∨ k = 6 → sm_abv k = 0) ∧ (k = 3 → sm_abv k = 2) ∧ (k = 4 → sm_abv k = 1) ∧ (k = 5 → sm_abv k = 3) ∧ (k = 7 → sm_abv k = 4) := by
          unfold sm_abv
          rcases (by omega : k = 1 ∨ k = 2 ∨ k = 3 ∨ k = 4 ∨ k = 5 ∨ k = 6 ∨ k = 7) with rfl | rfl | rfl | rfl | rfl | rfl | rfl <;> decide
        exact x_under m f fu (sm_abv k) t (u + 1) (by omega) ht (by omega) (by omega) (by omega) (by omega) (by omega) (by omega)
theorem m_above (k : Nat) (hk : k < 8) (m : gk_M) : f_M_above (sm_n k) m = some (sm_n (sm_abv k), m) := by
  rcases (by omega : k = 0 ∨ k = 1 ∨ k = 2 ∨ k = 3 ∨ k = 4 ∨ k = 5 ∨ k = 6 ∨ k = 7) with rfl | rfl | rfl | rfl | rfl | rfl | rfl | rfl <;> rfl
theorem m_taken_58 (m : gk_M) (a : Int32) : ∀ f fu k t, k < 8 → t < 8 → f < fu → (k = 0 → 1 ≤ f) → (k = 1 ∨ k = 2 ∨ k = 6 → 2 ≤ f) → (k = 3 ∨ k = 4 → 3 ≤ f) → (k = 5 ∨ k = 7 → 4 ≤ f) → f_M_taken_58 fu a (sm_n t) (sm_n k) m = f_M_taken_75 a 0 (if sm_und f k t then 0 else 1) m
  | 0, _, k, _, hk, _, _, h1, h2, h3, h4 => by omega
  | f + 1, fu + 1, k, t, hk, ht, hf, h1, h2, h3, h4 => by
    unfold f_M_taken_58 sm_und
    by_cases e : k = t
    · subst e
      rw [if_pos rfl, if_pos rfl, if_pos rfl]
      unfold f_M_taken_75
      rw [if_neg (fun z => z rfl), if_neg (fun z => z rfl)]
    · rw [if_neg (by simp (disch := omega) only [sm_lit, sm_nlt, sm_nle, sm_neq, sm_n_add, sm_n_mul, sm_n_div, sm_n_rem, sm_bi, sm_bl, sm_bv, sm_let, sm_zz0, sm_zz1, sm_ai, sm_si, sm_al, sm_sl, sm_ar, sm_mi1, sm_mi0, sm_ml1, sm_ml0, sm_mil, sm_mli]; exact e), if_neg e]
      by_cases k0 : k = 0
      · subst k0
        rw [if_pos (by decide), if_pos rfl, if_neg (by decide)]
        unfold f_M_taken_75
        rw [if_pos (by simp (disch := omega) only [sm_lit, sm_nlt, sm_nle, sm_neq, sm_n_add, sm_n_mul, sm_n_div, sm_n_rem, sm_bi, sm_bl, sm_bv, sm_let, sm_zz0, sm_zz1, sm_ai, sm_si, sm_al, sm_sl, sm_ar, sm_mi1, sm_mi0, sm_ml1, sm_ml0, sm_mil, sm_mli]; exact e), if_pos (by decide)]
      · rw [if_neg (by simp (disch := omega) only [sm_lit, sm_nlt, sm_nle, sm_neq, sm_n_add, sm_n_mul, sm_n_div, sm_n_rem, sm_bi, sm_bl, sm_bv, sm_let, sm_zz0, sm_zz1, sm_ai, sm_si, sm_al, sm_sl, sm_ar, sm_mi1, sm_mi0, sm_ml1, sm_ml0, sm_mil, sm_mli]; omega), if_neg k0, m_above k hk, sm_bi]
        have e3 : sm_abv k < 8 ∧ (k = 1 ∨ k = 2 ∨ k = 6 → sm_abv k = 0) ∧ (k = 3 → sm_abv k = 2) ∧ (k = 4 → sm_abv k = 1) ∧ (k = 5 → sm_abv k = 3) ∧ (k = 7 → sm_abv k = 4) := by
          unfold sm_abv
          rcases (by omega : k = 1 ∨ k = 2 ∨ k = 3 ∨ k = 4 ∨ k = 5 ∨ k = 6 ∨ k = 7) with rfl | rfl | rfl | rfl | rfl | rfl | rfl <;> decide
        exact m_taken_58 m a f fu (sm_abv k) t (by omega) ht (by omega) (by omega) (by omega) (by omega) (by omega)
theorem c_taken {mx mm : gk_M} (h : rl_ mx mm) (a b : Int32) : sm_al2 mx mm (f_X_taken a b mx) (f_M_taken a b mm) := by
  obtain ⟨n, TX, TM, R, S, F, nb, hX, hM, hT, hP, hK, hS, hH, hB, hR, hD⟩ := id h
  obtain ⟨hb50, b2, b3, b4⟩ := hB
  unfold f_X_taken f_M_taken
  rw [x_isShelf, sm_bi, m_isShelf, sm_bi]
  rcases sm_u_cases a 6 (by omega) with ⟨e0, e1⟩ | ⟨d, hd, rfl, e1⟩
  · rw [if_pos e0, if_pos e0]; exact sm_al_id h
  rw [if_neg (show ¬ sm_u (sm_n d) 6 = 0 by rw [e1]; decide), if_neg (show ¬ sm_u (sm_n d) 6 = 0 by rw [e1]; decide), x_isKind, sm_bi, m_within (h := 8) (hi := 7) (by omega) rfl, sm_bi]
  rcases sm_u_cases b 8 (by omega) with ⟨e0, e2⟩ | ⟨t, ht, rfl, e2⟩
  · rw [if_neg (by simpa using e0), if_neg (by simpa using e0)]; exact sm_al_id h
  rw [if_pos (show ¬ sm_u (sm_n t) 8 = 0 by rw [e2]; decide), if_pos (show ¬ sm_u (sm_n t) 8 = 0 by rw [e2]; decide), sm_ar (n := d) hd (by omega), sm_ai (n := d) hd (by omega)]
  unfold f_Shelf_isEmpty
  rcases hD d hd with ⟨h1, h2, h3⟩ | ⟨b, h0, h1, h2, h3⟩ | ⟨s, n', h0, h1, h2, h3, h4, h5, h6, h7⟩
  · rw [if_neg (show ¬ ¬ mx.1 (41 + d) 1 = -1 by rw [h1]; decide), if_neg (show ¬ ¬ mx.1 (41 + d) 2 = -1 by rw [h2]; decide), sm_bi, if_neg (by decide), h3, if_neg (by decide)]
    exact sm_al_id h
  · rw [if_pos (show ¬ mx.1 (41 + d) 1 = -1 by rw [h1, sm_nm1 (by omega)]; exact id), sm_bi, if_pos rfl, h3, if_pos (sm_nn' (by omega)), sm_ai (n := d) hd (by omega), h3, if_pos (by simp (disch := omega) only [sm_lit, sm_nlt, sm_nle, sm_neq, sm_n_add, sm_n_mul, sm_n_div, sm_n_rem, sm_bi, sm_bl, sm_bv, sm_let, sm_zz0, sm_zz1, sm_ai, sm_si, sm_al, sm_sl, sm_ar, sm_mi1, sm_mi0, sm_ml1, sm_ml0, sm_mil, sm_mli]; omega), sm_ai (n := d) hd (by omega), h3]
    unfold f_Shelf_isRow f_Ways_kindOf f_M_kindOf f_Ways_isUnder
    obtain ⟨k, hk, k1, k2⟩ := b4 b h0
    rw [if_pos h2, sm_bi, if_pos rfl, h1, x_isBody _ b2, sm_u1 h0 (by omega), sm_bi, if_neg (show ¬ (1 : Int32) = 0 by decide), sm_ai (by omega) (by omega), k1, sm_bi, sm_ai (by omega) (by omega), k2, sm_bi]
    rw [show (0 : Int32) = sm_n 0 from rfl, x_under mx 8 gk_fv k t 0 hk ht (by rw [gk_fv_eq]; omega) (by omega) (by omega) (by omega) (by omega) (by omega), sm_bi, m_taken_58 mm (sm_n d) 8 gk_fv k t hk ht (by rw [gk_fv_eq]; omega) (by omega) (by omega) (by omega) (by omega)]
    unfold f_M_taken_75 f_M_kindOf
    by_cases hu : sm_und 8 k t = true
    · rw [if_pos hu, if_pos hu, if_neg (show ¬ (1 : Int32) = sm_n 0 by decide), if_neg (fun z => z rfl), sm_ai (by omega) (by omega), h3, sm_ai (by omega) (by omega), k2, sm_bi]
      exact sm_al_id h
    · rw [if_neg hu, if_neg hu, if_pos (show (0 : Int32) = sm_n 0 from rfl), if_pos (show ¬ (1 : Int32) = 0 by decide)]
      exact sm_al_id h
  · rw [if_neg (show ¬ ¬ mx.1 (41 + d) 1 = -1 by rw [h2]; decide), if_pos (show ¬ mx.1 (41 + d) 2 = -1 by rw [h3, sm_nm1 (by omega)]; exact id), sm_bi, if_pos rfl, h5, if_pos (sm_nn' (by omega)), sm_ai (n := d) hd (by omega), h5, if_neg (by simp (disch := omega) only [sm_lit, sm_nlt, sm_nle, sm_neq, sm_n_add, sm_n_mul, sm_n_div, sm_n_rem, sm_bi, sm_bl, sm_bv, sm_let, sm_zz0, sm_zz1, sm_ai, sm_si, sm_al, sm_sl, sm_ar, sm_mi1, sm_mi0, sm_ml1, sm_ml0, sm_mil, sm_mli]; omega)]
    unfold f_Shelf_isRow
    rw [if_neg (show ¬ mx.1 (41 + d) 2 = -1 by rw [h3, sm_nm1 (by omega)]; exact id), sm_bi, if_neg (show ¬ (1 : Int32) = 0 by decide)]
    exact sm_al_id h
