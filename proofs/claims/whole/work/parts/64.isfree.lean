/-! SIM: whether one more may stand at a point -/
theorem sm_anyt {l i : Nat} {f : Nat → Bool} (h : f i = true) : sm_any (l + 1) i f = true := by
  unfold sm_any; rw [h]; rfl
theorem sm_anyf {l i : Nat} {f : Nat → Bool} (h : f i = false) : sm_any (l + 1) i f = sm_any l (i + 1) f := by
  show (f i || sm_any l (i + 1) f) = _
  rw [h]; rfl
def sm_hc (R : sm_rd) (p : Nat) : Bool := sm_any R.1 0 (fun r => sm_any (R.2.1 r) 0 (fun i => R.2.2 r i == p))
theorem x_hc12 {m : gk_M} {R : sm_rd} {p r : Nat} (xR : sm_xR R m) (hr : r < R.1) (hp : p < 900) (kk : Int32 → Int32 → gk_M → Option (Int32 × gk_M)) (g : Nat → Bool) (hg : ∀ i, g i = (R.2.2 r i == p)) : ∀ l i fu, i + l = R.2.1 r → l < fu → f_Plain_hasCorner_12 kk fu (sm_n p) (sm_n r) (sm_n i) m = if sm_any l i g = true then some (1, m) else kk (sm_n p) (sm_n (r + 1)) m
  | 0, i, fu + 1, h1, h3 => by
    have h5 := xR.2.1
    obtain ⟨a, b, c, d⟩ := xR.2.2 r hr
    unfold f_Plain_hasCorner_12
    rw [sm_ai (by omega) (by omega), a, if_pos (by simp (disch := omega) only [sm_lit, sm_nlt, sm_nle, sm_neq, sm_n_add, sm_n_mul, sm_n_div, sm_n_rem, sm_bi, sm_bl, sm_bv, sm_let, sm_zz0, sm_zz1, sm_ai, sm_si, sm_al, sm_sl, sm_ar, sm_mi1, sm_mi0, sm_ml1, sm_ml0, sm_mil, sm_mli]; omega), show sm_n r + 1 = sm_n (r + 1) from sm_n_add r 1, if_neg (show ¬ sm_any 0 i g = true from Bool.false_ne_true)]
  | l + 1, i, fu + 1, h1, h3 => by
    have h5 := xR.2.1
    obtain ⟨a, b, c, d⟩ := xR.2.2 r hr
    have di := (d i (by omega)).2
    unfold f_Plain_hasCorner_12
    rw [sm_ai (by omega) (by omega), a, if_neg (by simp (disch := omega) only [sm_lit, sm_nlt, sm_nle, sm_neq, sm_n_add, sm_n_mul, sm_n_div, sm_n_rem, sm_bi, sm_bl, sm_bv, sm_let, sm_zz0, sm_zz1, sm_ai, sm_si, sm_al, sm_sl, sm_ar, sm_mi1, sm_mi0, sm_ml1, sm_ml0, sm_mil, sm_mli]; omega), x_cornerAt xR hr (by omega), sm_bi, show sm_n i + 1 = sm_n (i + 1) from sm_n_add i 1]
    by_cases e : R.2.2 r i = p
    · rw [if_neg (show ¬ ¬ sm_n (R.2.2 r i) = sm_n p from fun z => z (by rw [e])), sm_anyt ((hg i).trans (by rw [e]; exact beq_self_eq_true p)), if_pos rfl]
    · rw [if_pos (show ¬ sm_n (R.2.2 r i) = sm_n p by rw [sm_neq (by omega) (by omega)]; exact e), sm_anyf ((hg i).trans (beq_eq_false_iff_ne.mpr e))]
      exact x_hc12 xR hr hp kk g hg l (i + 1) fu (by omega) (by omega)
theorem x_hc2 {m : gk_M} {R : sm_rd} {p : Nat} (xR : sm_xR R m) (hp : p < 900) (G : Nat → Bool) (hG : ∀ r, G r = sm_any (R.2.1 r) 0 (fun i => R.2.2 r i == p)) : ∀ l r fu, r + l = R.1 → l < fu → f_Plain_hasCorner_2 fu (sm_n p) (sm_n r) m = some (sm_b2 (sm_any l r G), m)
  | 0, r, fu + 1, h1, h3 => by
    have h5 := xR.2.1
    unfold f_Plain_hasCorner_2
    rw [xR.1, if_pos (by simp (disch := omega) only [sm_lit, sm_nlt, sm_nle, sm_neq, sm_n_add, sm_n_mul, sm_n_div, sm_n_rem, sm_bi, sm_bl, sm_bv, sm_let, sm_zz0, sm_zz1, sm_ai, sm_si, sm_al, sm_sl, sm_ar, sm_mi1, sm_mi0, sm_ml1, sm_ml0, sm_mil, sm_mli]; omega)]
    rfl
  | l + 1, r, fu + 1, h1, h3 => by
    have h5 := xR.2.1
    obtain ⟨a, b, c, d⟩ := xR.2.2 r (by omega)
    unfold f_Plain_hasCorner_2
    rw [xR.1, if_neg (by simp (disch := omega) only [sm_lit, sm_nlt, sm_nle, sm_neq, sm_n_add, sm_n_mul, sm_n_div, sm_n_rem, sm_bi, sm_bl, sm_bv, sm_let, sm_zz0, sm_zz1, sm_ai, sm_si, sm_al, sm_sl, sm_ar, sm_mi1, sm_mi0, sm_ml1, sm_ml0, sm_mil, sm_mli]; omega), show f_Plain_hasCorner_12 (f_Plain_hasCorner_2 fu) gk_fv (sm_n p) (sm_n r) 0 m = _ from x_hc12 xR (show r < R.1 by omega) hp (f_Plain_hasCorner_2 fu) _ (fun _ => rfl) (R.2.1 r) 0 gk_fv (by omega) (by rw [gk_fv_eq]; omega)]
    cases hc : sm_any (R.2.1 r) 0 (fun i => R.2.2 r i == p) with
    | true => rw [sm_anyt ((hG r).trans hc)]; rfl
    | false =>
      rw [sm_anyf ((hG r).trans hc), if_neg Bool.false_ne_true]
      exact x_hc2 xR hp G hG l (r + 1) fu (by omega) (by omega)
theorem x_hasCorner {m : gk_M} {R : sm_rd} {p : Nat} (xR : sm_xR R m) (hp : p < 900) : f_Plain_hasCorner (sm_n p) m = some (sm_b2 (sm_hc R p), m) :=
  x_hc2 xR hp _ (fun _ => rfl) R.1 0 gk_fv (by omega) (by have := xR.2.1; rw [gk_fv_eq]; omega)
theorem m_hc12 {m : gk_M} {R : sm_rd} {p r : Nat} (xR : sm_mR R m) (hr : r < R.1) (hp : p < 900) (kk : Int32 → Int32 → gk_M → Option (Int32 × gk_M)) (g : Nat → Bool) (hg : ∀ i, g i = (R.2.2 r i == p)) : ∀ l i fu, i + l = R.2.1 r → l < fu → f_M_isCorner_12 kk fu (sm_n p) (sm_n r) (sm_n i) m = if sm_any l i g = true then some (1, m) else kk (sm_n p) (sm_n (r + 1)) m
  | 0, i, fu + 1, h1, h3 => by
    have h5 := xR.2.1
    obtain ⟨a, b, c, d⟩ := xR.2.2 r hr
    unfold f_M_isCorner_12
    rw [sm_ai (by omega) (by omega), a, if_pos (by simp (disch := omega) only [sm_lit, sm_nlt, sm_nle, sm_neq, sm_n_add, sm_n_mul, sm_n_div, sm_n_rem, sm_bi, sm_bl, sm_bv, sm_let, sm_zz0, sm_zz1, sm_ai, sm_si, sm_al, sm_sl, sm_ar, sm_mi1, sm_mi0, sm_ml1, sm_ml0, sm_mil, sm_mli]; omega), show sm_n r + 1 = sm_n (r + 1) from sm_n_add r 1, if_neg (show ¬ sm_any 0 i g = true from Bool.false_ne_true)]
  | l + 1, i, fu + 1, h1, h3 => by
    have h5 := xR.2.1
    obtain ⟨a, b, c, d⟩ := xR.2.2 r hr
    have di := (d i (by omega)).2
    unfold f_M_isCorner_12
    rw [sm_ai (by omega) (by omega), a, if_neg (by simp (disch := omega) only [sm_lit, sm_nlt, sm_nle, sm_neq, sm_n_add, sm_n_mul, sm_n_div, sm_n_rem, sm_bi, sm_bl, sm_bv, sm_let, sm_zz0, sm_zz1, sm_ai, sm_si, sm_al, sm_sl, sm_ar, sm_mi1, sm_mi0, sm_ml1, sm_ml0, sm_mil, sm_mli]; omega), m_cornerOf xR hr (by omega), sm_bi, show sm_n i + 1 = sm_n (i + 1) from sm_n_add i 1]
    by_cases e : R.2.2 r i = p
    · rw [if_neg (show ¬ ¬ sm_n (R.2.2 r i) = sm_n p from fun z => z (by rw [e])), sm_anyt ((hg i).trans (by rw [e]; exact beq_self_eq_true p)), if_pos rfl]
    · rw [if_pos (show ¬ sm_n (R.2.2 r i) = sm_n p by rw [sm_neq (by omega) (by omega)]; exact e), sm_anyf ((hg i).trans (beq_eq_false_iff_ne.mpr e))]
      exact m_hc12 xR hr hp kk g hg l (i + 1) fu (by omega) (by omega)
theorem m_hc2 {m : gk_M} {R : sm_rd} {p : Nat} (xR : sm_mR R m) (hp : p < 900) (G : Nat → Bool) (hG : ∀ r, G r = sm_any (R.2.1 r) 0 (fun i => R.2.2 r i == p)) : ∀ l r fu, r + l = R.1 → l < fu → f_M_isCorner_2 fu (sm_n p) (sm_n r) m = some (sm_b2 (sm_any l r G), m)
  | 0, r, fu + 1, h1, h3 => by
    have h5 := xR.2.1
    unfold f_M_isCorner_2
    rw [xR.1, if_pos (by simp (disch := omega) only [sm_lit, sm_nlt, sm_nle, sm_neq, sm_n_add, sm_n_mul, sm_n_div, sm_n_rem, sm_bi, sm_bl, sm_bv, sm_let, sm_zz0, sm_zz1, sm_ai, sm_si, sm_al, sm_sl, sm_ar, sm_mi1, sm_mi0, sm_ml1, sm_ml0, sm_mil, sm_mli]; omega)]
    rfl
  | l + 1, r, fu + 1, h1, h3 => by
    have h5 := xR.2.1
    obtain ⟨a, b, c, d⟩ := xR.2.2 r (by omega)
    unfold f_M_isCorner_2
    rw [xR.1, if_neg (by simp (disch := omega) only [sm_lit, sm_nlt, sm_nle, sm_neq, sm_n_add, sm_n_mul, sm_n_div, sm_n_rem, sm_bi, sm_bl, sm_bv, sm_let, sm_zz0, sm_zz1, sm_ai, sm_si, sm_al, sm_sl, sm_ar, sm_mi1, sm_mi0, sm_ml1, sm_ml0, sm_mil, sm_mli]; omega), show f_M_isCorner_12 (f_M_isCorner_2 fu) gk_fv (sm_n p) (sm_n r) 0 m = _ from m_hc12 xR (show r < R.1 by omega) hp (f_M_isCorner_2 fu) _ (fun _ => rfl) (R.2.1 r) 0 gk_fv (by omega) (by rw [gk_fv_eq]; omega)]
    cases hc : sm_any (R.2.1 r) 0 (fun i => R.2.2 r i == p) with
    | true => rw [sm_anyt ((hG r).trans hc)]; rfl
    | false =>
      rw [sm_anyf ((hG r).trans hc), if_neg Bool.false_ne_true]
      exact m_hc2 xR hp G hG l (r + 1) fu (by omega) (by omega)
theorem m_isCorner {m : gk_M} {R : sm_rd} {p : Nat} (xR : sm_mR R m) (hp : p < 900) : f_M_isCorner (sm_n p) m = some (sm_b2 (sm_hc R p), m) :=
  m_hc2 xR hp _ (fun _ => rfl) R.1 0 gk_fv (by omega) (by have := xR.2.1; rw [gk_fv_eq]; omega)
/-- whether one of the first k shares a guilt with the tower at s -/
def sm_ng (k : Nat) (T : Nat → sm_tw) (R : sm_rd) (S : sm_fs) (F : sm_lf) (s : Nat) : Bool := sm_any R.1 0 (fun r => sm_any (R.2.1 r - 1) 0 (fun i => sm_any k 0 (fun t => sm_gs T R S F r i t s)))
section FREE
variable {n : Nat} {T : Nat → sm_tw} {R : sm_rd} {S : sm_fs} {F : sm_lf} {m0 m : gk_M}
theorem x_fr53 {r i s : Nat} (hr : r < R.1) (hi : i + 1 < R.2.1 r) (hs : s < 12) (hne : ∀ t, t < n → (T t).1 ≠ (T s).1) (k26 : Int32 → Int32 → gk_M → Option (Int32 × gk_M)) (k37 : Int32 → Int32 → Int32 → gk_M → Option (Int32 × gk_M)) (g : Nat → Bool) (hg : ∀ t, g t = sm_gs T R S F r i t s) : ∀ l t fu m, t + l = n → l < fu → sm_q n T R S F m0 m → ∃ m', sm_q n T R S F m0 m' ∧ f_Plain_isFreeFor_53 k26 k37 fu (sm_n s) (sm_n r) (sm_n i) (sm_n t) m = if sm_any l t g = true then some (0, m') else k37 (sm_n s) (sm_n r) (sm_n (i + 1)) m'
  | 0, t, fu + 1, m, h1, h3, hq => by
    have hn := hq.1.2.1
    refine ⟨m, hq, ?_⟩
    unfold f_Plain_isFreeFor_53
    rw [hq.1.1, if_pos (by simp (disch := omega) only [sm_lit, sm_nlt, sm_nle, sm_neq, sm_n_add, sm_n_mul, sm_n_div, sm_n_rem, sm_bi, sm_bl, sm_bv, sm_let, sm_zz0, sm_zz1, sm_ai, sm_si, sm_al, sm_sl, sm_ar, sm_mi1, sm_mi0, sm_ml1, sm_ml0, sm_mil, sm_mli]; omega), show sm_n i + 1 = sm_n (i + 1) from sm_n_add i 1, if_neg (show ¬ sm_any 0 t g = true from Bool.false_ne_true)]
  | l + 1, t, fu + 1, m, h1, h3, hq => by
    have hn := hq.1.2.1
    have xR := hq.1.2.2.2.1
    have h5 := xR.2.1
    obtain ⟨a, b, c, d⟩ := xR.2.2 r hr
    unfold f_Plain_isFreeFor_53
    rw [hq.1.1, if_neg (by simp (disch := omega) only [sm_lit, sm_nlt, sm_nle, sm_neq, sm_n_add, sm_n_mul, sm_n_div, sm_n_rem, sm_bi, sm_bl, sm_bv, sm_let, sm_zz0, sm_zz1, sm_ai, sm_si, sm_al, sm_sl, sm_ar, sm_mi1, sm_mi0, sm_ml1, sm_ml0, sm_mil, sm_mli]; omega), x_cornerAt xR hr (by omega), sm_bi, show sm_n i + 1 = sm_n (i + 1) from sm_n_add i 1, x_cornerAt xR hr hi, sm_bi, show sm_n t + 1 = sm_n (t + 1) from sm_n_add t 1]
    obtain ⟨m1, e1, hq1⟩ := x_guiltBetween hq (show r < 5 by omega) (show t < 12 by omega) hs (d i (by omega)).2 (d (i + 1) hi).2 (hne t (by omega))
    have gv := sm_gvm (S := S) (F := F) (k := r) (hq.1.2.2.1 t (by omega)).1 (hq.1.2.2.1 s hs).1 (d i (by omega)).2 (d (i + 1) (by omega)).2
    rw [e1, sm_bi]
    cases hc : sm_gl S F (T t) (T s) r (R.2.2 r i) (R.2.2 r (i + 1)) with
    | false =>
      rw [if_pos (gv.mpr hc), sm_anyf ((hg t).trans hc)]
      exact x_fr53 hr hi hs hne k26 k37 g hg l (t + 1) fu m1 (by omega) (by omega) hq1
    | true =>
      rw [if_neg (fun z => by rw [gv.mp z] at hc; exact Bool.false_ne_true hc), sm_anyt ((hg t).trans hc)]
      exact ⟨m1, hq1, rfl⟩
theorem x_fr37 {r s : Nat} (hr : r < R.1) (hs : s < 12) (hne : ∀ t, t < n → (T t).1 ≠ (T s).1) (k26 : Int32 → Int32 → gk_M → Option (Int32 × gk_M)) (g : Nat → Bool) (hg : ∀ i, g i = sm_any n 0 (fun t => sm_gs T R S F r i t s)) : ∀ l i fu m, i + l + 1 = R.2.1 r → l < fu → sm_q n T R S F m0 m → ∃ m', sm_q n T R S F m0 m' ∧ f_Plain_isFreeFor_37 k26 fu (sm_n s) (sm_n r) (sm_n i) m = if sm_any l i g = true then some (0, m') else k26 (sm_n s) (sm_n (r + 1)) m'
  | 0, i, fu + 1, m, h1, h3, hq => by
    have xR := hq.1.2.2.2.1
    have h5 := xR.2.1
    obtain ⟨a, b, c, d⟩ := xR.2.2 r hr
    refine ⟨m, hq, ?_⟩
    unfold f_Plain_isFreeFor_37
    rw [sm_ai (by omega) (by omega), a, show sm_n i + 1 = sm_n (i + 1) from sm_n_add i 1, if_pos (by simp (disch := omega) only [sm_lit, sm_nlt, sm_nle, sm_neq, sm_n_add, sm_n_mul, sm_n_div, sm_n_rem, sm_bi, sm_bl, sm_bv, sm_let, sm_zz0, sm_zz1, sm_ai, sm_si, sm_al, sm_sl, sm_ar, sm_mi1, sm_mi0, sm_ml1, sm_ml0, sm_mil, sm_mli]; omega), show sm_n r + 1 = sm_n (r + 1) from sm_n_add r 1, if_neg (show ¬ sm_any 0 i g = true from Bool.false_ne_true)]
  | l + 1, i, fu + 1, m, h1, h3, hq => by
    have hn := hq.1.2.1
    have xR := hq.1.2.2.2.1
    have h5 := xR.2.1
    obtain ⟨a, b, c, d⟩ := xR.2.2 r hr
    obtain ⟨m1, hq1, e1⟩ := x_fr53 hr (show i + 1 < R.2.1 r by omega) hs hne k26 (f_Plain_isFreeFor_37 k26 fu) _ (fun _ => rfl) n 0 gk_fv m (by omega) (by rw [gk_fv_eq]; omega) hq
    unfold f_Plain_isFreeFor_37
    rw [sm_ai (by omega) (by omega), a, show sm_n i + 1 = sm_n (i + 1) from sm_n_add i 1, if_neg (by simp (disch := omega) only [sm_lit, sm_nlt, sm_nle, sm_neq, sm_n_add, sm_n_mul, sm_n_div, sm_n_rem, sm_bi, sm_bl, sm_bv, sm_let, sm_zz0, sm_zz1, sm_ai, sm_si, sm_al, sm_sl, sm_ar, sm_mi1, sm_mi0, sm_ml1, sm_ml0, sm_mil, sm_mli]; omega), show f_Plain_isFreeFor_53 k26 (f_Plain_isFreeFor_37 k26 fu) gk_fv (sm_n s) (sm_n r) (sm_n i) 0 m = _ from e1]
    cases hc : sm_any n 0 (fun t => sm_gs T R S F r i t s) with
    | true =>
      rw [sm_anyt ((hg i).trans hc)]
      exact ⟨m1, hq1, rfl⟩
    | false =>
      rw [sm_anyf ((hg i).trans hc), if_neg Bool.false_ne_true]
      exact x_fr37 hr hs hne k26 g hg l (i + 1) fu m1 (by omega) (by omega) hq1
theorem x_fr26 {s : Nat} (hs : s < 12) (hne : ∀ t, t < n → (T t).1 ≠ (T s).1) (G : Nat → Bool) (hG : ∀ r, G r = sm_any (R.2.1 r - 1) 0 (fun i => sm_any n 0 (fun t => sm_gs T R S F r i t s))) : ∀ l r fu m, r + l = R.1 → l < fu → sm_q n T R S F m0 m → sm_ok (f_Plain_isFreeFor_26 fu (sm_n s) (sm_n r) m) (sm_b2 (!sm_any l r G)) (sm_q n T R S F m0)
  | 0, r, fu + 1, m, h1, h3, hq => by
    have xR := hq.1.2.2.2.1
    have h5 := xR.2.1
    unfold f_Plain_isFreeFor_26
    rw [xR.1, if_pos (by simp (disch := omega) only [sm_lit, sm_nlt, sm_nle, sm_neq, sm_n_add, sm_n_mul, sm_n_div, sm_n_rem, sm_bi, sm_bl, sm_bv, sm_let, sm_zz0, sm_zz1, sm_ai, sm_si, sm_al, sm_sl, sm_ar, sm_mi1, sm_mi0, sm_ml1, sm_ml0, sm_mil, sm_mli]; omega)]
    exact sm_okr hq
  | l + 1, r, fu + 1, m, h1, h3, hq => by
    have xR := hq.1.2.2.2.1
    have h5 := xR.2.1
    obtain ⟨a, b, c, d⟩ := xR.2.2 r (by omega)
    obtain ⟨m1, hq1, e1⟩ := x_fr37 (show r < R.1 by omega) hs hne (f_Plain_isFreeFor_26 fu) _ (fun _ => rfl) (R.2.1 r - 1) 0 gk_fv m (by omega) (by rw [gk_fv_eq]; omega) hq
    unfold f_Plain_isFreeFor_26
    rw [xR.1, if_neg (by simp (disch := omega) only [sm_lit, sm_nlt, sm_nle, sm_neq, sm_n_add, sm_n_mul, sm_n_div, sm_n_rem, sm_bi, sm_bl, sm_bv, sm_let, sm_zz0, sm_zz1, sm_ai, sm_si, sm_al, sm_sl, sm_ar, sm_mi1, sm_mi0, sm_ml1, sm_ml0, sm_mil, sm_mli]; omega), show f_Plain_isFreeFor_37 (f_Plain_isFreeFor_26 fu) gk_fv (sm_n s) (sm_n r) 0 m = _ from e1]
    cases hc : sm_any (R.2.1 r - 1) 0 (fun i => sm_any n 0 (fun t => sm_gs T R S F r i t s)) with
    | true =>
      rw [sm_anyt ((hG r).trans hc), if_pos rfl]
      exact sm_okr hq1
    | false =>
      rw [sm_anyf ((hG r).trans hc), if_neg Bool.false_ne_true]
      exact x_fr26 hs hne G hG l (r + 1) fu m1 (by omega) (by omega) hq1
/-- the tower at s is thought of, and may lie anywhere -/
def sm_qf (n : Nat) (T : Nat → sm_tw) (R : sm_rd) (S : sm_fs) (F : sm_lf) (s : Nat) (m0 m : gk_M) : Prop := ∃ p, p < 900 ∧ sm_X n (sm_tp T s p) R S F m ∧ (∀ k j, k ≠ 3 → k ≠ 19 → k ≠ 20 → ¬ (k = 8 ∧ j = s) → ¬ (k = 9 ∧ j = s) → m.1 k j = m0.1 k j) ∧ m.2 = m0.2
theorem sm_tp_id (T : Nat → sm_tw) (s : Nat) : sm_tp T s (T s).1 = T := by
  funext t
  unfold sm_tp
  by_cases e : t = s
  · subst e; rw [sm_up1]
  · rw [sm_up0 e]
theorem sm_tp_tp (T : Nat → sm_tw) (s p q : Nat) : sm_tp (sm_tp T s p) s q = sm_tp T s q := by
  funext t
  unfold sm_tp
  by_cases e : t = s
  · subst e; rw [sm_up1, sm_up1, sm_up1]
  · rw [sm_up0 e, sm_up0 e, sm_up0 e]
theorem sm_qf0 {s : Nat} (h : sm_X n T R S F m) (hs : s < 12) : sm_qf n T R S F s m m :=
  ⟨(T s).1, (h.2.2.1 s hs).1, by rw [sm_tp_id]; exact h, fun _ _ _ _ _ _ _ => rfl, rfl⟩
theorem sm_tp_lt {T : Nat → sm_tw} {s p t : Nat} (h : t ≠ s) : sm_tp T s p t = T t := by
  unfold sm_tp; exact sm_up0 h
theorem sm_tp_at (T : Nat → sm_tw) (s p : Nat) : sm_tp T s p s = (p, (T s).2) := by
  unfold sm_tp; exact sm_up1 _ _ _
theorem sm_has_tp {T : Nat → sm_tw} {s p q : Nat} (h : n ≤ s) : sm_has n (sm_tp T s q) p = sm_has n T p := by
  unfold sm_has
  exact sm_any_cg (fun j _ hj => by rw [sm_tp_lt (show j ≠ s by omega)])
def sm_free (n : Nat) (T : Nat → sm_tw) (R : sm_rd) (S : sm_fs) (F : sm_lf) (s p : Nat) : Bool := !sm_has n T p && (!sm_hc R p && !sm_ng n (sm_tp T s p) R S F s)
theorem x_isFreeFor {s p : Nat} (hf : sm_qf n T R S F s m0 m) (hs : s < 12) (hns : n ≤ s) (hp : p < 900) : sm_ok (f_Plain_isFreeFor (sm_n s) (sm_n p) m) (sm_b2 (sm_free n T R S F s p)) (fun m' => sm_qf n T R S F s m0 m' ∧ (sm_free n T R S F s p = true → sm_X n (sm_tp T s p) R S F m')) := by
  obtain ⟨q, hq, hX, f1, f2⟩ := id hf
  have hn := hX.2.1
  unfold f_Plain_isFreeFor
  rw [x_hasTower hX.1 (by omega) hX.2.2.1 hp, sm_bi, sm_has_tp hns]
  cases h1 : sm_has n T p with
  | true =>
    have e : sm_free n T R S F s p = false := by unfold sm_free; rw [h1]; rfl
    rw [if_pos rfl, if_pos (show ¬ (1 : Int32) = 0 by decide), e]
    exact sm_okr ⟨hf, fun z => absurd z Bool.false_ne_true⟩
  | false =>
    rw [if_neg Bool.false_ne_true, if_neg (show ¬ ¬ (0 : Int32) = 0 from fun z => z rfl), x_hasCorner hX.2.2.2.1 hp, sm_bi]
    cases h2 : sm_hc R p with
    | true =>
      have e : sm_free n T R S F s p = false := by unfold sm_free; rw [h1, h2]; rfl
      rw [if_neg (show ¬ sm_b2 true = 0 by decide), e]
      exact sm_okr ⟨hf, fun z => absurd z Bool.false_ne_true⟩
    | false =>
      have e : sm_free n T R S F s p = !sm_ng n (sm_tp T s p) R S F s := by unfold sm_free; rw [h1, h2]; rfl
      rw [if_pos (show sm_b2 false = 0 from rfl), x_place hs hp, sm_bv, e]
      have h3 := sm_X_pl (t := s) hX hs hp
      rw [sm_tp_tp] at h3
      have hne : ∀ t, t < n → (sm_tp T s p t).1 ≠ (sm_tp T s p s).1 := by
        intro t ht z
        rw [sm_tp_lt (show t ≠ s by omega), sm_tp_at] at z
        rw [sm_has_iff.mpr ⟨t, ht, z⟩] at h1
        exact Bool.false_ne_true h1.symm
      obtain ⟨m1, e1, q1⟩ := x_fr26 hs hne _ (fun _ => rfl) R.1 0 gk_fv (sm_xpl m s p) (by omega) (by have := hX.2.2.2.1.2.1; rw [gk_fv_eq]; omega) (sm_q0 h3)
      refine ⟨m1, e1, ⟨p, hp, q1.1, ?_, ?_⟩, fun _ => q1.1⟩
      · intro k j k3 k19 k20 k8 k9
        rw [q1.2.1 k j k3 k19 k20]
        unfold sm_xpl
        rw [sm_mi0 k9, sm_mi0 k8]
        exact f1 k j k3 k19 k20 k8 k9
      · rw [q1.2.2]; exact f2
/-- the reference's: the tower at s is thought of, and may be any -/
def sm_mf (n : Nat) (T : Nat → sm_tw) (R : sm_rd) (S : sm_fs) (F : sm_lf) (s : Nat) (m0 m : gk_M) : Prop := ∃ V : sm_tw, sm_M n (sm_up T s V) R S F m ∧ (∀ k j, k ≠ 13 → ¬ (k = 0 ∧ 19 ≤ j ∧ j ≤ 23) → ¬ (k = 5 ∧ j = s) → ¬ (k = 6 ∧ j = s) → ¬ (k = 7 ∧ j = s) → m.1 k j = m0.1 k j) ∧ (∀ k j, ¬ (k = 0 ∧ (j = 25 ∨ j = 26)) → m.2 k j = m0.2 k j)
theorem sm_up_id (T : Nat → sm_tw) (s : Nat) : sm_up T s (T s) = T := by
  funext t
  by_cases e : t = s
  · subst e; rw [sm_up1]
  · rw [sm_up0 e]
theorem sm_up_up (T : Nat → sm_tw) (s : Nat) (V W : sm_tw) : sm_up (sm_up T s V) s W = sm_up T s W := by
  funext t
  by_cases e : t = s
  · subst e; rw [sm_up1, sm_up1]
  · rw [sm_up0 e, sm_up0 e, sm_up0 e]
theorem sm_mf0 (s : Nat) (h : sm_M n T R S F m) : sm_mf n T R S F s m m :=
  ⟨T s, by rw [sm_up_id]; exact h, fun _ _ _ _ _ _ _ => rfl, fun _ _ _ => rfl⟩
def sm_mth (m : gk_M) (s p : Nat) (h : Int32) (w : Nat) : gk_M := gk_mi (gk_mi (gk_mi m 5 s (sm_n p)) 6 s (sm_n w)) 7 s h
theorem sm_M_th (hM : sm_M n T R S F m) {s p w : Nat} {h : Int32} (hns : n ≤ s) (hp : p < 900) (hw : w ≤ 10) : sm_M n (sm_up T s (p, h, 0, w)) R S F (sm_mth m s p h w) := by
  obtain ⟨y1, y2, y3, y4, y5, y6⟩ := hM
  unfold sm_mth
  refine ⟨by simp (disch := omega) only [sm_mi1, sm_mi0, sm_ml1, sm_ml0, sm_mil, sm_mli]; exact y1, y2, ?_, sm_mR_fr (by intro k j h; simp (disch := omega) only [sm_mi0, sm_mil, sm_mli]) y4, sm_mS_fr (by intro k j h; simp (disch := omega) only [sm_mi0, sm_mil, sm_mli]) y5, sm_mF_fr (by intro k j h; simp (disch := omega) only [sm_mi0, sm_mil, sm_mli]) y6⟩
  intro t ht
  obtain ⟨a, b, c, d, e, f⟩ := y3 t ht
  unfold sm_mw
  by_cases est : t = s
  · subst est
    rw [sm_up1]
    refine ⟨hp, by simp (disch := omega) only [sm_mi1, sm_mi0, sm_ml1, sm_ml0, sm_mil, sm_mli], ?_, ?_, by simp (disch := omega) only [sm_mi1, sm_mi0, sm_ml1, sm_ml0, sm_mil, sm_mli], hw⟩
    · rw [if_neg (by omega), sm_mi1]
    · rw [if_neg (by omega)]
  · rw [sm_up0 est]
    refine ⟨a, by simp (disch := omega) only [sm_mi1, sm_mi0, sm_ml1, sm_ml0, sm_mil, sm_mli]; exact b, ?_, ?_, by simp (disch := omega) only [sm_mi1, sm_mi0, sm_ml1, sm_ml0, sm_mil, sm_mli]; exact e, f⟩
    · rw [sm_mi0 (by omega), sm_mi0 (by omega), sm_mi0 (by omega), sm_mi0 (by omega), sm_mi0 (by omega), sm_mi0 (by omega)]; exact c
    · rw [sm_mi0 (by omega), sm_mi0 (by omega), sm_mi0 (by omega)]; exact d
theorem m_fr73 {r i s : Nat} (hr : r < R.1) (hi : i + 1 < R.2.1 r) (hs : s < 20) (k44 : Int32 → Int32 → gk_M → Option (Int32 × gk_M)) (k56 : Int32 → Int32 → Int32 → gk_M → Option (Int32 × gk_M)) (g : Nat → Bool) (hg : ∀ t, g t = sm_gs T R S F r i t s) : ∀ l t fu m, t + l = s → l < fu → sm_p n T R S F m0 m → ∃ m', sm_p n T R S F m0 m' ∧ f_M_isFree_73 k44 k56 fu (sm_n s) (sm_n r) (sm_n i) (sm_n t) m = if sm_any l t g = true then some (0, m') else k56 (sm_n s) (sm_n r) (sm_n (i + 1)) m'
  | 0, t, fu + 1, m, h1, h3, hq => by
    refine ⟨m, hq, ?_⟩
    unfold f_M_isFree_73
    rw [if_pos (by simp (disch := omega) only [sm_lit, sm_nlt, sm_nle, sm_neq, sm_n_add, sm_n_mul, sm_n_div, sm_n_rem, sm_bi, sm_bl, sm_bv, sm_let, sm_zz0, sm_zz1, sm_ai, sm_si, sm_al, sm_sl, sm_ar, sm_mi1, sm_mi0, sm_ml1, sm_ml0, sm_mil, sm_mli]; omega), show sm_n i + 1 = sm_n (i + 1) from sm_n_add i 1, if_neg (show ¬ sm_any 0 t g = true from Bool.false_ne_true)]
  | l + 1, t, fu + 1, m, h1, h3, hq => by
    unfold f_M_isFree_73
    obtain ⟨m1, e1, hq1, _⟩ := m_isGuiltyOn hq hr hi (show t < 20 by omega) hs
    rw [if_neg (by simp (disch := omega) only [sm_lit, sm_nlt, sm_nle, sm_neq, sm_n_add, sm_n_mul, sm_n_div, sm_n_rem, sm_bi, sm_bl, sm_bv, sm_let, sm_zz0, sm_zz1, sm_ai, sm_si, sm_al, sm_sl, sm_ar, sm_mi1, sm_mi0, sm_ml1, sm_ml0, sm_mil, sm_mli]; omega), e1, sm_bi, show sm_n t + 1 = sm_n (t + 1) from sm_n_add t 1]
    cases hc : sm_gs T R S F r i t s with
    | false =>
      rw [if_pos (show sm_b2 false = 0 from rfl), sm_anyf ((hg t).trans hc)]
      exact m_fr73 hr hi hs k44 k56 g hg l (t + 1) fu m1 (by omega) (by omega) hq1
    | true =>
      rw [if_neg (show ¬ sm_b2 true = 0 by decide), sm_anyt ((hg t).trans hc)]
      exact ⟨m1, hq1, rfl⟩
theorem m_fr56 {r s : Nat} (hr : r < R.1) (hs : s < 20) (k44 : Int32 → Int32 → gk_M → Option (Int32 × gk_M)) (g : Nat → Bool) (hg : ∀ i, g i = sm_any s 0 (fun t => sm_gs T R S F r i t s)) : ∀ l i fu m, i + l + 1 = R.2.1 r → l < fu → sm_p n T R S F m0 m → ∃ m', sm_p n T R S F m0 m' ∧ f_M_isFree_56 k44 fu (sm_n s) (sm_n r) (sm_n i) m = if sm_any l i g = true then some (0, m') else k44 (sm_n s) (sm_n (r + 1)) m'
  | 0, i, fu + 1, m, h1, h3, hq => by
    have xR := hq.1.2.2.2.1
    have h5 := xR.2.1
    obtain ⟨a, b, c, d⟩ := xR.2.2 r hr
    refine ⟨m, hq, ?_⟩
    unfold f_M_isFree_56
    rw [sm_ai (by omega) (by omega), a, show sm_n i + 1 = sm_n (i + 1) from sm_n_add i 1, if_pos (by simp (disch := omega) only [sm_lit, sm_nlt, sm_nle, sm_neq, sm_n_add, sm_n_mul, sm_n_div, sm_n_rem, sm_bi, sm_bl, sm_bv, sm_let, sm_zz0, sm_zz1, sm_ai, sm_si, sm_al, sm_sl, sm_ar, sm_mi1, sm_mi0, sm_ml1, sm_ml0, sm_mil, sm_mli]; omega), show sm_n r + 1 = sm_n (r + 1) from sm_n_add r 1, if_neg (show ¬ sm_any 0 i g = true from Bool.false_ne_true)]
  | l + 1, i, fu + 1, m, h1, h3, hq => by
    have xR := hq.1.2.2.2.1
    have h5 := xR.2.1
    obtain ⟨a, b, c, d⟩ := xR.2.2 r hr
    obtain ⟨m1, hq1, e1⟩ := m_fr73 hr (show i + 1 < R.2.1 r by omega) hs k44 (f_M_isFree_56 k44 fu) _ (fun _ => rfl) s 0 gk_fv m (by omega) (by rw [gk_fv_eq]; omega) hq
    unfold f_M_isFree_56
    rw [sm_ai (by omega) (by omega), a, show sm_n i + 1 = sm_n (i + 1) from sm_n_add i 1, if_neg (by simp (disch := omega) only [sm_lit, sm_nlt, sm_nle, sm_neq, sm_n_add, sm_n_mul, sm_n_div, sm_n_rem, sm_bi, sm_bl, sm_bv, sm_let, sm_zz0, sm_zz1, sm_ai, sm_si, sm_al, sm_sl, sm_ar, sm_mi1, sm_mi0, sm_ml1, sm_ml0, sm_mil, sm_mli]; omega), show f_M_isFree_73 k44 (f_M_isFree_56 k44 fu) gk_fv (sm_n s) (sm_n r) (sm_n i) 0 m = _ from e1]
    cases hc : sm_any s 0 (fun t => sm_gs T R S F r i t s) with
    | true =>
      rw [sm_anyt ((hg i).trans hc)]
      exact ⟨m1, hq1, rfl⟩
    | false =>
      rw [sm_anyf ((hg i).trans hc), if_neg Bool.false_ne_true]
      exact m_fr56 hr hs k44 g hg l (i + 1) fu m1 (by omega) (by omega) hq1
theorem m_fr44 {s : Nat} (hs : s < 20) (G : Nat → Bool) (hG : ∀ r, G r = sm_any (R.2.1 r - 1) 0 (fun i => sm_any s 0 (fun t => sm_gs T R S F r i t s))) : ∀ l r fu m, r + l = R.1 → l < fu → sm_p n T R S F m0 m → sm_ok (f_M_isFree_44 fu (sm_n s) (sm_n r) m) (sm_b2 (!sm_any l r G)) (sm_p n T R S F m0)
  | 0, r, fu + 1, m, h1, h3, hq => by
    have xR := hq.1.2.2.2.1
    have h5 := xR.2.1
    unfold f_M_isFree_44
    rw [xR.1, if_pos (by simp (disch := omega) only [sm_lit, sm_nlt, sm_nle, sm_neq, sm_n_add, sm_n_mul, sm_n_div, sm_n_rem, sm_bi, sm_bl, sm_bv, sm_let, sm_zz0, sm_zz1, sm_ai, sm_si, sm_al, sm_sl, sm_ar, sm_mi1, sm_mi0, sm_ml1, sm_ml0, sm_mil, sm_mli]; omega)]
    exact sm_okr hq
  | l + 1, r, fu + 1, m, h1, h3, hq => by
    have xR := hq.1.2.2.2.1
    have h5 := xR.2.1
    obtain ⟨a, b, c, d⟩ := xR.2.2 r (by omega)
    obtain ⟨m1, hq1, e1⟩ := m_fr56 (show r < R.1 by omega) hs (f_M_isFree_44 fu) _ (fun _ => rfl) (R.2.1 r - 1) 0 gk_fv m (by omega) (by rw [gk_fv_eq]; omega) hq
    unfold f_M_isFree_44
    rw [xR.1, if_neg (by simp (disch := omega) only [sm_lit, sm_nlt, sm_nle, sm_neq, sm_n_add, sm_n_mul, sm_n_div, sm_n_rem, sm_bi, sm_bl, sm_bv, sm_let, sm_zz0, sm_zz1, sm_ai, sm_si, sm_al, sm_sl, sm_ar, sm_mi1, sm_mi0, sm_ml1, sm_ml0, sm_mil, sm_mli]; omega), show f_M_isFree_56 (f_M_isFree_44 fu) gk_fv (sm_n s) (sm_n r) 0 m = _ from e1]
    cases hc : sm_any (R.2.1 r - 1) 0 (fun i => sm_any s 0 (fun t => sm_gs T R S F r i t s)) with
    | true =>
      rw [sm_anyt ((hG r).trans hc), if_pos rfl]
      exact sm_okr hq1
    | false =>
      rw [sm_anyf ((hG r).trans hc), if_neg Bool.false_ne_true]
      exact m_fr44 hs G hG l (r + 1) fu m1 (by omega) (by omega) hq1
def sm_mfree (T : Nat → sm_tw) (R : sm_rd) (S : sm_fs) (F : sm_lf) (s : Nat) (h : Int32) (w p : Nat) : Bool := !sm_has s T p && (!sm_hc R p && !sm_ng s (sm_up T s (p, h, 0, w)) R S F s)
theorem m_isFree {s p w : Nat} {h : Int32} (hf : sm_mf n T R S F s m0 m) (hs : s < 20) (hns : n ≤ s) (hp : p < 900) (hw : w ≤ 10) : sm_ok (f_M_isFree (sm_n p) (sm_n s) h (sm_n w) m) (sm_b2 (sm_mfree T R S F s h w p)) (fun m' => sm_mf n T R S F s m0 m' ∧ (sm_mfree T R S F s h w p = true → sm_M n (sm_up T s (p, h, 0, w)) R S F m')) := by
  obtain ⟨V, hM, f1, f2⟩ := id hf
  have hn := hM.2.1
  unfold f_M_isFree
  rw [m_isFreeOf (T := T) (k := s) (by omega) (fun t ht => by
    obtain ⟨a, b, _⟩ := hM.2.2.1 t (by omega)
    rw [sm_up0 (show ¬ t = s by omega)] at a b
    exact ⟨b, a⟩) hp, sm_bi]
  cases h1 : sm_has s T p with
  | true =>
    have e : sm_mfree T R S F s h w p = false := by unfold sm_mfree; rw [h1]; rfl
    rw [if_pos rfl, if_pos rfl, e]
    exact sm_okr ⟨hf, fun z => absurd z Bool.false_ne_true⟩
  | false =>
    rw [if_neg Bool.false_ne_true, if_neg (show ¬ (1 : Int32) = 0 by decide), m_isCorner hM.2.2.2.1 hp, sm_bi]
    cases h2 : sm_hc R p with
    | true =>
      have e : sm_mfree T R S F s h w p = false := by unfold sm_mfree; rw [h1, h2]; rfl
      rw [if_neg (show ¬ sm_b2 true = 0 by decide), e]
      exact sm_okr ⟨hf, fun z => absurd z Bool.false_ne_true⟩
    | false =>
      have e : sm_mfree T R S F s h w p = !sm_ng s (sm_up T s (p, h, 0, w)) R S F s := by unfold sm_mfree; rw [h1, h2]; rfl
      rw [if_pos (show sm_b2 false = 0 from rfl), sm_si (by omega) (by omega), sm_si (by omega) (by omega), sm_si (by omega) (by omega), e]
      have h3 := sm_M_th (h := h) hM hns hp hw
      rw [sm_up_up] at h3
      obtain ⟨m1, e1, q1⟩ := m_fr44 hs _ (fun _ => rfl) R.1 0 gk_fv (sm_mth m s p h w) (by omega) (by have := hM.2.2.2.1.2.1; rw [gk_fv_eq]; omega) (sm_p0 h3)
      refine ⟨m1, e1, ⟨_, q1.1, ?_, ?_⟩, fun _ => q1.1⟩
      · intro k j k13 k0 k5 k6 k7
        rw [q1.2.1 k j k13 k0]
        unfold sm_mth
        rw [sm_mi0 k7, sm_mi0 k6, sm_mi0 k5]
        exact f1 k j k13 k0 k5 k6 k7
      · intro k j hk
        rw [q1.2.2 k j hk]
        exact f2 k j hk
end FREE
