/-! SIM: led, moved -/
def sm_gop (T : Nat → sm_tw) (R : sm_rd) (S : sm_fs) (F : sm_lf) (s t : Nat) : Nat := sm_sum R.1 0 (fun r => sm_sum (R.2.1 r - 1) 0 (fun i => sm_c1 (sm_gs T R S F r i s t)))
section LED
variable {n : Nat} {T : Nat → sm_tw} {R : sm_rd} {S : sm_fs} {F : sm_lf} {m0 m : gk_M}
theorem x_gop17 {r s t : Nat} (hne : (T s).1 ≠ (T t).1) (hr : r < R.1) (hs : s < 12) (ht : t < 12) (kk : Int32 → Int32 → Int32 → Int32 → gk_M → Option (Int32 × gk_M)) (g : Nat → Nat) (hg : ∀ i, g i = sm_c1 (sm_gs T R S F r i s t)) : ∀ l i fu acc m, i + l + 1 = R.2.1 r → l < fu → sm_q n T R S F m0 m → ∃ m', sm_q n T R S F m0 m' ∧ f_Plain_guiltsOfPair_17 kk fu (sm_n s) (sm_n t) (sm_n acc) (sm_n r) (sm_n i) m = kk (sm_n s) (sm_n t) (sm_n (acc + sm_sum l i g)) (sm_n (r + 1)) m'
  | 0, i, fu + 1, acc, m, h1, h3, hq => by
    have xR := hq.1.2.2.2.1
    have h5 := xR.2.1
    obtain ⟨a, b, c, d⟩ := xR.2.2 r hr
    refine ⟨m, hq, ?_⟩
    unfold f_Plain_guiltsOfPair_17
    rw [sm_ai (by omega) (by omega), a, show sm_n i + 1 = sm_n (i + 1) from sm_n_add i 1, if_pos (by simp (disch := omega) only [sm_lit, sm_nlt, sm_nle, sm_neq, sm_n_add, sm_n_mul, sm_n_div, sm_n_rem, sm_bi, sm_bl, sm_bv, sm_let, sm_zz0, sm_zz1, sm_ai, sm_si, sm_al, sm_sl, sm_ar, sm_mi1, sm_mi0, sm_ml1, sm_ml0, sm_mil, sm_mli]; omega), show sm_n r + 1 = sm_n (r + 1) from sm_n_add r 1]
    rfl
  | l + 1, i, fu + 1, acc, m, h1, h3, hq => by
    have xR := hq.1.2.2.2.1
    have h5 := xR.2.1
    obtain ⟨a, b, c, d⟩ := xR.2.2 r hr
    unfold f_Plain_guiltsOfPair_17
    rw [sm_ai (by omega) (by omega), a, show sm_n i + 1 = sm_n (i + 1) from sm_n_add i 1, if_neg (by simp (disch := omega) only [sm_lit, sm_nlt, sm_nle, sm_neq, sm_n_add, sm_n_mul, sm_n_div, sm_n_rem, sm_bi, sm_bl, sm_bv, sm_let, sm_zz0, sm_zz1, sm_ai, sm_si, sm_al, sm_sl, sm_ar, sm_mi1, sm_mi0, sm_ml1, sm_ml0, sm_mil, sm_mli]; omega), x_cornerAt xR hr (by omega), sm_bi, x_cornerAt xR hr (by omega), sm_bi]
    obtain ⟨m1, e1, hq1⟩ := x_guiltBetween hq (show r < 5 by omega) hs ht (d i (by omega)).2 (d (i + 1) (by omega)).2 hne
    have gv := sm_gvm (S := S) (F := F) (k := r) (hq.1.2.2.1 s hs).1 (hq.1.2.2.1 t ht).1 (d i (by omega)).2 (d (i + 1) (by omega)).2
    have hgt := hg i
    rw [e1, sm_bi, show acc + sm_sum (l + 1) i g = acc + g i + sm_sum l (i + 1) g by rw [Nat.add_assoc]; rfl]
    cases hc : sm_gl S F (T s) (T t) r (R.2.2 r i) (R.2.2 r (i + 1)) with
    | false =>
      rw [show sm_gs T R S F r i s t = false from hc] at hgt
      rw [if_pos (gv.mpr hc), hgt]
      exact x_gop17 hne hr hs ht kk g hg l (i + 1) fu _ m1 (by omega) (by omega) hq1
    | true =>
      rw [show sm_gs T R S F r i s t = true from hc] at hgt
      rw [if_neg (fun z => by rw [gv.mp z] at hc; exact Bool.false_ne_true hc), hgt, show sm_n acc + 1 = sm_n (acc + 1) from sm_n_add acc 1]
      exact x_gop17 hne hr hs ht kk g hg l (i + 1) fu _ m1 (by omega) (by omega) hq1
theorem x_gop5 {s t : Nat} (hne : (T s).1 ≠ (T t).1) (hs : s < 12) (ht : t < 12) (G : Nat → Nat) (hG : ∀ r, G r = sm_sum (R.2.1 r - 1) 0 (fun i => sm_c1 (sm_gs T R S F r i s t))) : ∀ l r fu acc m, r + l = R.1 → l < fu → sm_q n T R S F m0 m → sm_ok (f_Plain_guiltsOfPair_5 fu (sm_n s) (sm_n t) (sm_n acc) (sm_n r) m) (sm_n (acc + sm_sum l r G)) (sm_q n T R S F m0)
  | 0, r, fu + 1, acc, m, h1, h3, hq => by
    have xR := hq.1.2.2.2.1
    have h5 := xR.2.1
    unfold f_Plain_guiltsOfPair_5
    rw [xR.1, if_pos (by simp (disch := omega) only [sm_lit, sm_nlt, sm_nle, sm_neq, sm_n_add, sm_n_mul, sm_n_div, sm_n_rem, sm_bi, sm_bl, sm_bv, sm_let, sm_zz0, sm_zz1, sm_ai, sm_si, sm_al, sm_sl, sm_ar, sm_mi1, sm_mi0, sm_ml1, sm_ml0, sm_mil, sm_mli]; omega)]
    exact sm_okr hq
  | l + 1, r, fu + 1, acc, m, h1, h3, hq => by
    have xR := hq.1.2.2.2.1
    have h5 := xR.2.1
    obtain ⟨a, b, c, d⟩ := xR.2.2 r (by omega)
    unfold f_Plain_guiltsOfPair_5
    obtain ⟨m1, hq1, e1⟩ := x_gop17 hne (show r < R.1 by omega) hs ht (f_Plain_guiltsOfPair_5 fu) _ (fun _ => rfl) (R.2.1 r - 1) 0 gk_fv acc m (by omega) (by rw [gk_fv_eq]; omega) hq
    rw [xR.1, if_neg (by simp (disch := omega) only [sm_lit, sm_nlt, sm_nle, sm_neq, sm_n_add, sm_n_mul, sm_n_div, sm_n_rem, sm_bi, sm_bl, sm_bv, sm_let, sm_zz0, sm_zz1, sm_ai, sm_si, sm_al, sm_sl, sm_ar, sm_mi1, sm_mi0, sm_ml1, sm_ml0, sm_mil, sm_mli]; omega), show (0 : Int32) = sm_n 0 from rfl, e1, ← hG r, show acc + sm_sum (l + 1) r G = acc + G r + sm_sum l (r + 1) G by rw [Nat.add_assoc]; rfl]
    exact x_gop5 hne hs ht G hG l (r + 1) fu _ m1 (by omega) (by omega) hq1
theorem x_gop {s t : Nat} (hne : (T s).1 ≠ (T t).1) (hs : s < 12) (ht : t < 12) (hq : sm_q n T R S F m0 m) : sm_ok (f_Plain_guiltsOfPair (sm_n s) (sm_n t) m) (sm_n (sm_gop T R S F s t)) (sm_q n T R S F m0) := by
  have h5 := hq.1.2.2.2.1.2.1
  have h := x_gop5 hne hs ht _ (fun _ => rfl) R.1 0 gk_fv 0 m (by omega) (by rw [gk_fv_eq]; omega) hq
  rw [Nat.zero_add] at h
  exact h
theorem x_gw4 (hd : sm_dis n T) {t : Nat} (ht : t < n) (G : Nat → Nat) (hG : ∀ u, G u = if u = t then 0 else sm_gop T R S F u t) : ∀ l u fu acc m, u + l = n → l < fu → sm_q n T R S F m0 m → sm_ok (f_Plain_guiltsWith_4 fu (sm_n t) (sm_n acc) (sm_n u) m) (sm_n (acc + sm_sum l u G)) (sm_q n T R S F m0)
  | 0, u, fu + 1, acc, m, h1, h3, hq => by
    have hn := hq.1.2.1
    unfold f_Plain_guiltsWith_4
    rw [hq.1.1, if_pos (by simp (disch := omega) only [sm_lit, sm_nlt, sm_nle, sm_neq, sm_n_add, sm_n_mul, sm_n_div, sm_n_rem, sm_bi, sm_bl, sm_bv, sm_let, sm_zz0, sm_zz1, sm_ai, sm_si, sm_al, sm_sl, sm_ar, sm_mi1, sm_mi0, sm_ml1, sm_ml0, sm_mil, sm_mli]; omega)]
    exact sm_okr hq
  | l + 1, u, fu + 1, acc, m, h1, h3, hq => by
    have hn := hq.1.2.1
    have hGu := hG u
    unfold f_Plain_guiltsWith_4
    rw [hq.1.1, if_neg (by simp (disch := omega) only [sm_lit, sm_nlt, sm_nle, sm_neq, sm_n_add, sm_n_mul, sm_n_div, sm_n_rem, sm_bi, sm_bl, sm_bv, sm_let, sm_zz0, sm_zz1, sm_ai, sm_si, sm_al, sm_sl, sm_ar, sm_mi1, sm_mi0, sm_ml1, sm_ml0, sm_mil, sm_mli]; omega), show sm_n u + 1 = sm_n (u + 1) from sm_n_add u 1, show acc + sm_sum (l + 1) u G = acc + G u + sm_sum l (u + 1) G by rw [Nat.add_assoc]; rfl]
    by_cases e : u = t
    · rw [if_pos (by rw [e]), hGu, if_pos e]
      exact x_gw4 hd ht G hG l (u + 1) fu _ m (by omega) (by omega) hq
    · rw [if_neg (by rw [sm_neq (by omega) (by omega)]; exact e), hGu, if_neg e]
      refine sm_okb (x_gop (hd u t (by omega) ht e) (by omega) (by omega) hq) (fun m1 hq1 => ?_)
      rw [sm_let, sm_n_add]
      exact x_gw4 hd ht G hG l (u + 1) fu _ m1 (by omega) (by omega) hq1
theorem m_gw34 {r i t : Nat} (hr : r < R.1) (hi : i + 1 < R.2.1 r) (ht : t < n) (k5 : Int32 → Int32 → Int32 → Int32 → gk_M → Option (Int32 × gk_M)) (kk : Int32 → Int32 → Int32 → Int32 → Int32 → gk_M → Option (Int32 × gk_M)) (g : Nat → Nat) (hg : ∀ u, g u = if u = t then 0 else sm_c1 (sm_gs T R S F r i t u)) : ∀ l u fu acc m, u + l = n → l < fu → sm_p n T R S F m0 m → ∃ m', sm_p n T R S F m0 m' ∧ f_M_guiltsWith_34 k5 kk fu (sm_n t) (sm_n n) (sm_n acc) (sm_n r) (sm_n i) (sm_n u) m = kk (sm_n t) (sm_n n) (sm_n (acc + sm_sum l u g)) (sm_n r) (sm_n (i + 1)) m'
  | 0, u, fu + 1, acc, m, h1, h3, hq => by
    have hn := hq.1.2.1
    refine ⟨m, hq, ?_⟩
    unfold f_M_guiltsWith_34
    rw [if_pos (by simp (disch := omega) only [sm_lit, sm_nlt, sm_nle, sm_neq, sm_n_add, sm_n_mul, sm_n_div, sm_n_rem, sm_bi, sm_bl, sm_bv, sm_let, sm_zz0, sm_zz1, sm_ai, sm_si, sm_al, sm_sl, sm_ar, sm_mi1, sm_mi0, sm_ml1, sm_ml0, sm_mil, sm_mli]; omega), show sm_n i + 1 = sm_n (i + 1) from sm_n_add i 1]
    rfl
  | l + 1, u, fu + 1, acc, m, h1, h3, hq => by
    have hn := hq.1.2.1
    have hgu := hg u
    unfold f_M_guiltsWith_34 f_M_guiltsWith_65 f_M_guiltsWith_66
    rw [if_neg (by simp (disch := omega) only [sm_lit, sm_nlt, sm_nle, sm_neq, sm_n_add, sm_n_mul, sm_n_div, sm_n_rem, sm_bi, sm_bl, sm_bv, sm_let, sm_zz0, sm_zz1, sm_ai, sm_si, sm_al, sm_sl, sm_ar, sm_mi1, sm_mi0, sm_ml1, sm_ml0, sm_mil, sm_mli]; omega), show sm_n u + 1 = sm_n (u + 1) from sm_n_add u 1, show acc + sm_sum (l + 1) u g = acc + g u + sm_sum l (u + 1) g by rw [Nat.add_assoc]; rfl]
    by_cases e : u = t
    · rw [if_pos (by rw [e]), sm_let, hgu, if_pos e, show sm_n acc + 0 = sm_n (acc + 0) from sm_n_add acc 0]
      exact m_gw34 hr hi ht k5 kk g hg l (u + 1) fu _ m (by omega) (by omega) hq
    · obtain ⟨m1, e1, hq1, _⟩ := m_isGuiltyOn hq hr hi (show t < 20 by omega) (show u < 20 by omega)
      rw [if_neg (by rw [sm_neq (by omega) (by omega)]; exact e), e1, sm_bi, sm_let, sm_let, hgu, if_neg e]
      cases sm_gs T R S F r i t u with
      | false =>
        rw [if_pos (show sm_b2 false = 0 from rfl), show sm_n acc + 0 = sm_n (acc + 0) from sm_n_add acc 0]
        exact m_gw34 hr hi ht k5 kk g hg l (u + 1) fu _ m1 (by omega) (by omega) hq1
      | true =>
        rw [if_neg (show ¬ sm_b2 true = 0 by decide), show sm_n acc + 1 = sm_n (acc + 1) from sm_n_add acc 1]
        exact m_gw34 hr hi ht k5 kk g hg l (u + 1) fu _ m1 (by omega) (by omega) hq1
theorem m_gw17 {r t : Nat} (hr : r < R.1) (ht : t < n) (kk : Int32 → Int32 → Int32 → Int32 → gk_M → Option (Int32 × gk_M)) (g : Nat → Nat) (hg : ∀ i, g i = sm_sum n 0 (fun u => if u = t then 0 else sm_c1 (sm_gs T R S F r i t u))) : ∀ l i fu acc m, i + l + 1 = R.2.1 r → l < fu → sm_p n T R S F m0 m → ∃ m', sm_p n T R S F m0 m' ∧ f_M_guiltsWith_17 kk fu (sm_n t) (sm_n n) (sm_n acc) (sm_n r) (sm_n i) m = kk (sm_n t) (sm_n n) (sm_n (acc + sm_sum l i g)) (sm_n (r + 1)) m'
  | 0, i, fu + 1, acc, m, h1, h3, hq => by
    have xR := hq.1.2.2.2.1
    have h5 := xR.2.1
    obtain ⟨a, b, c, d⟩ := xR.2.2 r hr
    refine ⟨m, hq, ?_⟩
    unfold f_M_guiltsWith_17
    rw [sm_ai (by omega) (by omega), a, show sm_n i + 1 = sm_n (i + 1) from sm_n_add i 1, if_pos (by simp (disch := omega) only [sm_lit, sm_nlt, sm_nle, sm_neq, sm_n_add, sm_n_mul, sm_n_div, sm_n_rem, sm_bi, sm_bl, sm_bv, sm_let, sm_zz0, sm_zz1, sm_ai, sm_si, sm_al, sm_sl, sm_ar, sm_mi1, sm_mi0, sm_ml1, sm_ml0, sm_mil, sm_mli]; omega), show sm_n r + 1 = sm_n (r + 1) from sm_n_add r 1]
    rfl
  | l + 1, i, fu + 1, acc, m, h1, h3, hq => by
    have xR := hq.1.2.2.2.1
    have hn := hq.1.2.1
    have h5 := xR.2.1
    obtain ⟨a, b, c, d⟩ := xR.2.2 r hr
    unfold f_M_guiltsWith_17
    obtain ⟨m1, hq1, e1⟩ := m_gw34 hr (show i + 1 < R.2.1 r by omega) ht kk (f_M_guiltsWith_17 kk fu) _ (fun _ => rfl) n 0 gk_fv acc m (by omega) (by rw [gk_fv_eq]; omega) hq
    rw [sm_ai (by omega) (by omega), a, show sm_n i + 1 = sm_n (i + 1) from sm_n_add i 1, if_neg (by simp (disch := omega) only [sm_lit, sm_nlt, sm_nle, sm_neq, sm_n_add, sm_n_mul, sm_n_div, sm_n_rem, sm_bi, sm_bl, sm_bv, sm_let, sm_zz0, sm_zz1, sm_ai, sm_si, sm_al, sm_sl, sm_ar, sm_mi1, sm_mi0, sm_ml1, sm_ml0, sm_mil, sm_mli]; omega), show (0 : Int32) = sm_n 0 from rfl, e1, ← hg i, show acc + sm_sum (l + 1) i g = acc + g i + sm_sum l (i + 1) g by rw [Nat.add_assoc]; rfl]
    exact m_gw17 hr ht kk g hg l (i + 1) fu _ m1 (by omega) (by omega) hq1
theorem m_gw5 {t : Nat} (ht : t < n) (G : Nat → Nat) (hG : ∀ r, G r = sm_sum (R.2.1 r - 1) 0 (fun i => sm_sum n 0 (fun u => if u = t then 0 else sm_c1 (sm_gs T R S F r i t u)))) : ∀ l r fu acc m, r + l = R.1 → l < fu → sm_p n T R S F m0 m → sm_ok (f_M_guiltsWith_5 fu (sm_n t) (sm_n n) (sm_n acc) (sm_n r) m) (sm_n (acc + sm_sum l r G)) (sm_p n T R S F m0)
  | 0, r, fu + 1, acc, m, h1, h3, hq => by
    have xR := hq.1.2.2.2.1
    have h5 := xR.2.1
    unfold f_M_guiltsWith_5
    rw [xR.1, if_pos (by simp (disch := omega) only [sm_lit, sm_nlt, sm_nle, sm_neq, sm_n_add, sm_n_mul, sm_n_div, sm_n_rem, sm_bi, sm_bl, sm_bv, sm_let, sm_zz0, sm_zz1, sm_ai, sm_si, sm_al, sm_sl, sm_ar, sm_mi1, sm_mi0, sm_ml1, sm_ml0, sm_mil, sm_mli]; omega)]
    exact sm_okr hq
  | l + 1, r, fu + 1, acc, m, h1, h3, hq => by
    have xR := hq.1.2.2.2.1
    have h5 := xR.2.1
    obtain ⟨a, b, c, d⟩ := xR.2.2 r (by omega)
    unfold f_M_guiltsWith_5
    obtain ⟨m1, hq1, e1⟩ := m_gw17 (show r < R.1 by omega) ht (f_M_guiltsWith_5 fu) _ (fun _ => rfl) (R.2.1 r - 1) 0 gk_fv acc m (by omega) (by rw [gk_fv_eq]; omega) hq
    rw [xR.1, if_neg (by simp (disch := omega) only [sm_lit, sm_nlt, sm_nle, sm_neq, sm_n_add, sm_n_mul, sm_n_div, sm_n_rem, sm_bi, sm_bl, sm_bv, sm_let, sm_zz0, sm_zz1, sm_ai, sm_si, sm_al, sm_sl, sm_ar, sm_mi1, sm_mi0, sm_ml1, sm_ml0, sm_mil, sm_mli]; omega), show (0 : Int32) = sm_n 0 from rfl, e1, ← hG r, show acc + sm_sum (l + 1) r G = acc + G r + sm_sum l (r + 1) G by rw [Nat.add_assoc]; rfl]
    exact m_gw5 ht G hG l (r + 1) fu _ m1 (by omega) (by omega) hq1
end LED
theorem sm_gs_sym {n : Nat} {T : Nat → sm_tw} (hd : sm_dis n T) (R : sm_rd) (S : sm_fs) (F : sm_lf) (r i : Nat) {s t : Nat} (hs : s < n) (ht : t < n) (h : s ≠ t) : sm_gs T R S F r i s t = sm_gs T R S F r i t s := sm_gl_sym (hd s t hs ht h)
theorem c_led {mx mm : gk_M} (h : rl_ mx mm) (a : Int32) : sm_al2 mx mm (f_X_led a mx) (f_M_led a mm) := by
  obtain ⟨n, TX, TM, R, S, F, nb, hX, hM, hT, hP, hK, hS, hH, hB, hR, hD⟩ := id h
  have hn := hX.2.1
  have h4 := hX.2.2.2.1.2.1
  unfold f_X_led f_M_led f_Plain_guiltsWith f_M_guiltsWith
  rw [x_isTower a hX.1, sm_bi, m_isTower a (show n < 2147483648 by omega) hM.1, sm_bi]
  rcases sm_u_cases a n (by omega) with ⟨e0, e1⟩ | ⟨t, ht, rfl, e1⟩
  · rw [if_pos e0, if_pos e0]; exact sm_al_id h
  rw [if_neg (show ¬ sm_u (sm_n t) n = 0 by rw [e1]; decide), if_neg (show ¬ sm_u (sm_n t) n = 0 by rw [e1]; decide), hM.1]
  obtain ⟨mx', x1, x2⟩ := x_gw4 (rl_dis hT) ht _ (fun _ => rfl) n 0 gk_fv 0 mx (by omega) (by rw [gk_fv_eq]; omega) (sm_q0 hX)
  obtain ⟨mm', y1, y2⟩ := m_gw5 ht _ (fun _ => rfl) R.1 0 gk_fv 0 mm (by omega) (by rw [gk_fv_eq]; omega) (sm_p0 hM)
  rw [show f_Plain_guiltsWith_4 gk_fv (sm_n t) 0 0 mx = _ from x1, show f_M_guiltsWith_5 gk_fv (sm_n t) (sm_n n) 0 0 mm = _ from y1, sm_bi, sm_bi]
  have E : sm_sum n 0 (fun u => if u = t then 0 else sm_gop TX R S F u t) = sm_sum R.1 0 (fun r => sm_sum (R.2.1 r - 1) 0 (fun i => sm_sum n 0 (fun u => if u = t then 0 else sm_c1 (sm_gs TM R S F r i t u)))) := by
    have e1 : sm_sum n 0 (fun u => if u = t then 0 else sm_gop TX R S F u t) = sm_sum n 0 (fun u => sm_sum R.1 0 (fun r => sm_sum (R.2.1 r - 1) 0 (fun i => if u = t then 0 else sm_c1 (sm_gs TM R S F r i t u)))) := by
      refine sm_sum_cg (fun u _ hu => ?_)
      by_cases e : u = t
      · subst e
        rw [if_pos rfl]
        symm
        refine Eq.trans (sm_sum_cg (fun r _ _ => Eq.trans (sm_sum_cg (fun i _ _ => if_pos rfl)) (sm_sum_zero _ _))) (sm_sum_zero _ _)
      · rw [if_neg e]
        unfold sm_gop
        refine sm_sum_cg (fun r _ _ => sm_sum_cg (fun i _ _ => ?_))
        rw [if_neg e, sm_gs_sym (rl_dis hT) R S F r i (show u < n by omega) ht e, sm_gs_cg hT.1 R S F r i ht (show u < n by omega)]
    rw [e1, sm_sum_com]
    refine sm_sum_cg (fun r _ _ => ?_)
    exact sm_sum_com _ _ _ _ _
  rw [E]
  exact ⟨_, _, _, rfl, rfl, rl_q x2 y2 hT hP hK hS hH hB hR hD⟩
/-! a tower elsewhere -/
section MV
variable {n : Nat} {T : Nat → sm_tw} {R : sm_rd} {S : sm_fs} {F : sm_lf} {m0 m : gk_M}
def sm_tp (T : Nat → sm_tw) (t p : Nat) : Nat → sm_tw := sm_up T t (p, (T t).2)
def sm_xpl (m : gk_M) (t p : Nat) : gk_M := gk_mi (gk_mi m 8 t (sm_n (p % 30))) 9 t (sm_n (p / 30))
theorem sm_tp2 (T : Nat → sm_tw) (t p s : Nat) : (sm_tp T t p s).2 = (T s).2 := by
  unfold sm_tp
  by_cases e : s = t
  · subst e; rw [sm_up1]
  · rw [sm_up0 e]
theorem sm_X_pl (h : sm_X n T R S F m) {t p : Nat} (ht : t < 12) (hp : p < 900) : sm_X n (sm_tp T t p) R S F (sm_xpl m t p) := by
  obtain ⟨x1, x2, x3, x4, x5, x6, x7⟩ := h
  unfold sm_xpl
  refine ⟨by simp (disch := omega) only [sm_mi1, sm_mi0, sm_ml1, sm_ml0, sm_mil, sm_mli]; exact x1, x2, ?_, sm_xR_fr (by intro k j h; simp (disch := omega) only [sm_mi0, sm_mil, sm_mli]) x4, sm_xS_fr (by intro k j h; simp (disch := omega) only [sm_mi0, sm_mil, sm_mli]) x5, sm_xF_fr (by intro k j h; simp (disch := omega) only [sm_mi0, sm_mil, sm_mli]) x6, ?_⟩
  · intro s hs
    obtain ⟨a, b, c, d, e, f⟩ := x3 s hs
    unfold sm_tp
    by_cases est : s = t
    · subst est
      rw [sm_up1]
      exact ⟨hp, by simp (disch := omega) only [sm_mi1, sm_mi0, sm_ml1, sm_ml0, sm_mil, sm_mli], by simp (disch := omega) only [sm_mi1, sm_mi0, sm_ml1, sm_ml0, sm_mil, sm_mli], by simp (disch := omega) only [sm_mi1, sm_mi0, sm_ml1, sm_ml0, sm_mil, sm_mli]; exact d, by simp (disch := omega) only [sm_mi1, sm_mi0, sm_ml1, sm_ml0, sm_mil, sm_mli]; exact e, f⟩
    · rw [sm_up0 est]
      exact ⟨a, by simp (disch := omega) only [sm_mi1, sm_mi0, sm_ml1, sm_ml0, sm_mil, sm_mli]; exact b, by simp (disch := omega) only [sm_mi1, sm_mi0, sm_ml1, sm_ml0, sm_mil, sm_mli]; exact c, by simp (disch := omega) only [sm_mi1, sm_mi0, sm_ml1, sm_ml0, sm_mil, sm_mli]; exact d, by simp (disch := omega) only [sm_mi1, sm_mi0, sm_ml1, sm_ml0, sm_mil, sm_mli]; exact e, f⟩
  · intro k s u hk hs hu
    rw [sm_mi0 (by omega), sm_mi0 (by omega)]
    have e : sm_cnt F (sm_tp T t p s) (sm_tp T t p u) k = sm_cnt F (T s) (T u) k := by
      unfold sm_cnt
      rw [sm_tp2, sm_tp2]
    rw [e]
    exact x7 k s u hk hs hu
theorem sm_M_pl (h : sm_M n T R S F m) {t p : Nat} (hp : p < 900) : sm_M n (sm_tp T t p) R S F (gk_mi m 5 t (sm_n p)) := by
  obtain ⟨y1, y2, y3, y4, y5, y6⟩ := h
  refine ⟨by simp (disch := omega) only [sm_mi1, sm_mi0, sm_ml1, sm_ml0, sm_mil, sm_mli]; exact y1, y2, ?_, sm_mR_fr (by intro k j h; simp (disch := omega) only [sm_mi0, sm_mil, sm_mli]) y4, sm_mS_fr (by intro k j h; simp (disch := omega) only [sm_mi0, sm_mil, sm_mli]) y5, sm_mF_fr (by intro k j h; simp (disch := omega) only [sm_mi0, sm_mil, sm_mli]) y6⟩
  intro s hs
  obtain ⟨a, b, c, d, e, f⟩ := y3 s hs
  unfold sm_mw
  unfold sm_tp
  by_cases est : s = t
  · subst est
    rw [sm_up1]
    refine ⟨hp, by simp (disch := omega) only [sm_mi1, sm_mi0, sm_ml1, sm_ml0, sm_mil, sm_mli], ?_, ?_, by simp (disch := omega) only [sm_mi1, sm_mi0, sm_ml1, sm_ml0, sm_mil, sm_mli]; exact e, f⟩
    · rw [sm_mi0 (by omega), sm_mi0 (by omega)]; exact c
    · rw [sm_mi0 (by omega)]; exact d
  · rw [sm_up0 est]
    refine ⟨a, by simp (disch := omega) only [sm_mi1, sm_mi0, sm_ml1, sm_ml0, sm_mil, sm_mli]; exact b, ?_, ?_, by simp (disch := omega) only [sm_mi1, sm_mi0, sm_ml1, sm_ml0, sm_mil, sm_mli]; exact e, f⟩
    · rw [sm_mi0 (by omega), sm_mi0 (by omega)]; exact c
    · rw [sm_mi0 (by omega)]; exact d
/-- behind questions the tower comes back: as if it never went -/
theorem sm_X_back (h0 : sm_X n T R S F m0) {t p : Nat} (ht : t < 12) (hq : sm_q n (sm_tp T t p) R S F (sm_xpl m0 t p) m) : sm_q n T R S F m0 (sm_xpl m t (T t).1) := by
  obtain ⟨h1, h2, h3⟩ := hq
  have X := h0.2.2.1 t ht
  have hb := sm_X_pl h1 ht X.1
  have e : sm_tp (sm_tp T t p) t (T t).1 = T := by
    funext s
    unfold sm_tp
    by_cases est : s = t
    · subst est; rw [sm_up1, sm_up1]
    · rw [sm_up0 est, sm_up0 est]
  rw [e] at hb
  refine ⟨hb, ?_, by rw [← sm_mil m0 8 t (sm_n (p % 30))]; exact h3⟩
  intro k j h3 h19 h20
  unfold sm_xpl at h2 ⊢
  by_cases z9 : k = 9 ∧ j = t
  · obtain ⟨rfl, rfl⟩ := z9
    rw [sm_mi1, X.2.2.1]
  · rw [sm_mi0 z9]
    by_cases z8 : k = 8 ∧ j = t
    · obtain ⟨rfl, rfl⟩ := z8
      rw [sm_mi1, X.2.1]
    · rw [sm_mi0 z8, h2 k j h3 h19 h20, sm_mi0 z9, sm_mi0 z8]
theorem sm_M_back (h0 : sm_M n T R S F m0) {t p : Nat} (ht : t < 20) (hq : sm_p n (sm_tp T t p) R S F (gk_mi m0 5 t (sm_n p)) m) : sm_p n T R S F m0 (gk_mi m 5 t (sm_n (T t).1)) := by
  obtain ⟨h1, h2, h3⟩ := hq
  have X := h0.2.2.1 t ht
  have hb := sm_M_pl (t := t) h1 X.1
  have e : sm_tp (sm_tp T t p) t (T t).1 = T := by
    funext s
    unfold sm_tp
    by_cases est : s = t
    · subst est; rw [sm_up1, sm_up1]
    · rw [sm_up0 est, sm_up0 est]
  rw [e] at hb
  refine ⟨hb, ?_, fun k j hk => h3 k j hk⟩
  intro k j hk hj
  by_cases z : k = 5 ∧ j = t
  · obtain ⟨rfl, rfl⟩ := z
    rw [sm_mi1, X.2.1]
  · rw [sm_mi0 z, h2 k j hk hj, sm_mi0 z]
theorem sm_dis_pl (hd : sm_dis n T) {t p : Nat} (hp : ∀ s, s < n → s ≠ t → (T s).1 ≠ p) : sm_dis n (sm_tp T t p) := by
  intro s u hs hu hne
  unfold sm_tp
  by_cases e1 : s = t
  · subst e1
    rw [sm_up1, sm_up0 (fun z => hne z.symm)]
    exact (hp u hu (fun z => hne z.symm)).symm
  · rw [sm_up0 e1]
    by_cases e2 : u = t
    · subst e2
      rw [sm_up1]
      exact hp s hs e1
    · rw [sm_up0 e2]
      exact hd s u hs hu hne
end MV
theorem c_moved {mx mm : gk_M} (h : rl_ mx mm) (a b : Int32) : sm_al2 mx mm (f_X_moved a b mx) (f_M_moved a b mm) := by
  obtain ⟨n, TX, TM, R, S, F, nb, hX, hM, hT, hP, hK, hS, hH, hB, hR, hD⟩ := id h
  have hn := hX.2.1
  unfold f_X_moved f_M_moved
  rw [x_isTower a hX.1, sm_bi, m_isTower a (show n < 2147483648 by omega) hM.1, sm_bi]
  rcases sm_u_cases a n (by omega) with ⟨e0, e1⟩ | ⟨t, ht, rfl, e1⟩
  · rw [if_pos e0, if_pos e0]; exact sm_al_id h
  rw [if_neg (show ¬ sm_u (sm_n t) n = 0 by rw [e1]; decide), if_neg (show ¬ sm_u (sm_n t) n = 0 by rw [e1]; decide)]
  by_cases b0 : b < 0
  · rw [if_pos b0, if_pos b0]; exact sm_al_id h
  obtain ⟨q, hq, rfl⟩ := sm_get b0
  rw [if_neg b0, if_neg b0, show (100 : Int32) = sm_n 100 from rfl, sm_n_div hq (by omega), sm_n_rem hq (by omega)]
  by_cases q1 : 18 < q / 100
  · rw [if_pos (show (18 : Int32) < sm_n (q / 100) by simp (disch := omega) only [sm_lit, sm_nlt, sm_nle, sm_neq, sm_n_add, sm_n_mul, sm_n_div, sm_n_rem, sm_bi, sm_bl, sm_bv, sm_let, sm_zz0, sm_zz1, sm_ai, sm_si, sm_al, sm_sl, sm_ar, sm_mi1, sm_mi0, sm_ml1, sm_ml0, sm_mil, sm_mli]; exact q1), if_pos (show (18 : Int32) < sm_n (q / 100) by simp (disch := omega) only [sm_lit, sm_nlt, sm_nle, sm_neq, sm_n_add, sm_n_mul, sm_n_div, sm_n_rem, sm_bi, sm_bl, sm_bv, sm_let, sm_zz0, sm_zz1, sm_ai, sm_si, sm_al, sm_sl, sm_ar, sm_mi1, sm_mi0, sm_ml1, sm_ml0, sm_mil, sm_mli]; exact q1)]; exact sm_al_id h
  rw [if_neg (show ¬ (18 : Int32) < sm_n (q / 100) by simp (disch := omega) only [sm_lit, sm_nlt, sm_nle, sm_neq, sm_n_add, sm_n_mul, sm_n_div, sm_n_rem, sm_bi, sm_bl, sm_bv, sm_let, sm_zz0, sm_zz1, sm_ai, sm_si, sm_al, sm_sl, sm_ar, sm_mi1, sm_mi0, sm_ml1, sm_ml0, sm_mil, sm_mli]; exact q1), if_neg (show ¬ (18 : Int32) < sm_n (q / 100) by simp (disch := omega) only [sm_lit, sm_nlt, sm_nle, sm_neq, sm_n_add, sm_n_mul, sm_n_div, sm_n_rem, sm_bi, sm_bl, sm_bv, sm_let, sm_zz0, sm_zz1, sm_ai, sm_si, sm_al, sm_sl, sm_ar, sm_mi1, sm_mi0, sm_ml1, sm_ml0, sm_mil, sm_mli]; exact q1)]
  by_cases q2 : q % 100 ≤ 18
  · rw [if_pos (show sm_n (q % 100) ≤ (18 : Int32) by simp (disch := omega) only [sm_lit, sm_nlt, sm_nle, sm_neq, sm_n_add, sm_n_mul, sm_n_div, sm_n_rem, sm_bi, sm_bl, sm_bv, sm_let, sm_zz0, sm_zz1, sm_ai, sm_si, sm_al, sm_sl, sm_ar, sm_mi1, sm_mi0, sm_ml1, sm_ml0, sm_mil, sm_mli]; exact q2), if_pos (show sm_n (q % 100) ≤ (18 : Int32) by simp (disch := omega) only [sm_lit, sm_nlt, sm_nle, sm_neq, sm_n_add, sm_n_mul, sm_n_div, sm_n_rem, sm_bi, sm_bl, sm_bv, sm_let, sm_zz0, sm_zz1, sm_ai, sm_si, sm_al, sm_sl, sm_ar, sm_mi1, sm_mi0, sm_ml1, sm_ml0, sm_mil, sm_mli]; exact q2)]
    have X := hX.2.2.1 t (by omega)
    have Y := hM.2.2.1 t (by omega)
    have E := hT.1 t ht
    have X9 := X.1
    obtain ⟨p, hp⟩ : ∃ p, p = (TX t).1 := ⟨_, rfl⟩
    obtain ⟨vx, hvx⟩ : ∃ v : Int, v = (p % 30 : Nat) + (q / 100 : Nat) - 9 := ⟨_, rfl⟩
    obtain ⟨vy, hvy⟩ : ∃ v : Int, v = (p / 30 : Nat) + (q % 100 : Nat) - 9 := ⟨_, rfl⟩
    have y5 : mm.1 5 t = sm_n p := by rw [Y.2.1, ← E, hp]
    rw [x_pointOf (by omega) X, sm_bi, ← hp, sm_ai (by omega) (by omega), sm_let, sm_ai (by omega) (by omega), sm_let, sm_ai (by omega) (by omega), y5]
    unfold f_Planner_target
    rw [sm_ai (by omega) (by omega), sm_let, sm_ai (by omega) (by omega), sm_let, X.2.1, X.2.2.1, ← hp, show (30 : Int32) = sm_n 30 from rfl, sm_n_div (by omega) (by omega), sm_n_rem (by omega) (by omega)]
    have ex : sm_n (p % 30) + (sm_n (q / 100) - 9) = sm_i vx := by
      rw [show (9 : Int32) = sm_i 9 from rfl, sm_ni, sm_ni, sm_i_sub, sm_i_add, hvx]; congr 1; omega
    have ey : sm_n (p / 30) + (sm_n (q % 100) - 9) = sm_i vy := by
      rw [show (9 : Int32) = sm_i 9 from rfl, sm_ni, sm_ni, sm_i_sub, sm_i_add, hvy]; congr 1; omega
    have fx : sm_n (p % 30) + sm_n (q / 100) - 9 = sm_i vx := by
      rw [show (9 : Int32) = sm_i 9 from rfl, sm_ni, sm_ni, sm_i_add, sm_i_sub, hvx]
    have fy : sm_n (p / 30) + sm_n (q % 100) - 9 = sm_i vy := by
      rw [show (9 : Int32) = sm_i 9 from rfl, sm_ni, sm_ni, sm_i_add, sm_i_sub, hvy]
    rw [ex, ey, fx, fy, m_within (h := 30) (hi := 29) (by omega) rfl, sm_bi, m_within (h := 30) (hi := 29) (by omega) rfl, sm_bi]
    have ux : ∀ v : Int, -100 ≤ v → v ≤ 100 → (sm_u (sm_i v) 30 = 0 ↔ (v < 0 ∨ 30 ≤ v)) := by
      intro v h1 h2
      unfold sm_u
      have w1 := (sm_i0lt (a := v) (by omega) (by omega)).1
      have w2 : sm_n 30 ≤ sm_i v ↔ 30 ≤ v := by rw [sm_ni, sm_ile (by omega) (by omega) (by omega) (by omega)]; rfl
      simp only [w1, w2]
      by_cases c1 : v < 0
      · rw [if_pos c1]; exact ⟨fun _ => Or.inl c1, fun _ => rfl⟩
      · rw [if_neg c1]
        by_cases c2 : 30 ≤ v
        · rw [if_pos c2]; exact ⟨fun _ => Or.inr c2, fun _ => rfl⟩
        · rw [if_neg c2]
          constructor
          · intro z; exact absurd z (by decide)
          · intro z; omega
    have uvx := ux vx (by omega) (by omega)
    have uvy := ux vy (by omega) (by omega)
    have z1 := sm_i0lt (a := vx) (by omega) (by omega)
    have z2 := sm_i0lt (a := vy) (by omega) (by omega)
    have l1 : sm_n 30 ≤ sm_i vx ↔ 30 ≤ vx := by rw [sm_ni, sm_ile (by omega) (by omega) (by omega) (by omega)]; rfl
    have l2 : sm_i vy < sm_n 30 ↔ vy < 30 := by rw [sm_ni, sm_ilt (by omega) (by omega) (by omega) (by omega)]; rfl
    have no : ∀ m : gk_M, ¬ (0 : Int32) ≤ -2 := fun _ => by decide
    by_cases c1 : vx < 0
    · rw [if_pos (z1.1.mpr c1), sm_bi, if_neg (by decide), if_pos (uvx.mpr (Or.inl c1))]; exact sm_al_id h
    rw [if_neg (fun z => c1 (z1.1.mp z))]
    by_cases c2 : 30 ≤ vx
    · rw [if_pos (l1.mpr c2), sm_bi, if_neg (by decide), if_pos (uvx.mpr (Or.inr c2))]; exact sm_al_id h
    rw [if_neg (fun z => c2 (l1.mp z)), if_neg (show ¬ sm_u (sm_i vx) 30 = 0 from fun z => by have := uvx.mp z; omega)]
    by_cases c3 : vy < 0
    · rw [if_pos (z2.1.mpr c3), sm_bi, if_neg (by decide), if_neg (show ¬ ¬ sm_u (sm_i vy) 30 = 0 from fun z => z (uvy.mpr (Or.inl c3)))]; exact sm_al_id h
    rw [if_neg (show ¬ sm_i vy < 0 from fun z => c3 (z2.1.mp z))]
    by_cases c4 : vy < 30
    · rw [if_pos (l2.mpr c4), if_pos (show ¬ sm_u (sm_i vy) 30 = 0 from fun z => by have := uvy.mp z; omega), sm_let, sm_let]
      obtain ⟨to, hto⟩ : ∃ to : Nat, (to : Int) = 30 * vy + vx := ⟨(30 * vy + vx).toNat, by omega⟩
      have eto : sm_n 30 * sm_i vy + sm_i vx = sm_n to := by rw [sm_ni, sm_ni, sm_i_mul, sm_i_add, hto]; rfl
      have hto9 : to < 900 := by omega
      rw [eto, x_pointOf (by omega) X, sm_bi, ← hp]
      have run : (∀ s, s < n → s ≠ t → (TX s).1 ≠ to) → sm_al2 mx mm (gk_bv (f_Plain_place (sm_n t) (sm_n to) mx) fun m7 => gk_bi (f_Plain_allGuilts m7) fun v9 m8 => gk_bv (f_Plain_place (sm_n t) (sm_n p) m8) fun m10 => some (v9, m10)) (f_M_moved_137 (sm_n t) (sm_n p) (sm_n to) mm) := by
        intro hdis
        unfold f_M_moved_137
        rw [x_place (by omega) hto9, sm_bv, sm_si (by omega) (by omega)]
        obtain ⟨mx', x1, x2⟩ := x_allGuilts (sm_dis_pl (rl_dis hT) hdis) (sm_q0 (sm_X_pl hX (t := t) (p := to) (by omega) hto9))
        obtain ⟨mm', y1, y2⟩ := m_allGuilts (sm_p0 (sm_M_pl hM (t := t) (p := to) hto9))
        rw [show f_Plain_allGuilts (gk_mi (gk_mi mx 8 t (sm_n (to % 30))) 9 t (sm_n (to / 30))) = _ from x1, y1, sm_bi, sm_bi, x_place (by omega) (by omega), sm_bv, sm_si (by omega) (by omega)]
        have e : sm_all n (sm_tp TX t to) R S F = sm_all n (sm_tp TM t to) R S F := by
          refine sm_all_cg (fun s hs => ?_) R S F
          unfold sm_tp
          by_cases est : s = t
          · subst est; rw [sm_up1, sm_up1, E]
          · rw [sm_up0 est, sm_up0 est]; exact hT.1 s hs
        rw [e]
        have bx := sm_X_back hX (by omega) x2
        have bm := sm_M_back hM (by omega) y2
        rw [← hp] at bx
        rw [← E, ← hp] at bm
        exact ⟨_, _, _, rfl, rfl, rl_q bx bm hT hP hK hS hH hB hR hD⟩
      by_cases c5 : to = p
      · rw [if_pos (show sm_n to = sm_n p by rw [c5]), sm_bi, if_pos (show 0 ≤ sm_n to from sm_nn' (by omega)), if_pos (show sm_n to = sm_n p by rw [c5])]
        exact run (fun s hs hst z => rl_ne hT hs ht hst (by rw [z, c5, hp]))
      · rw [if_neg (by rw [sm_neq (by omega) (by omega)]; exact c5), if_neg (by rw [sm_neq (by omega) (by omega)]; exact c5), x_hasTower hX.1 (by omega) hX.2.2.1 hto9, sm_bi, hM.1, m_isFreeOf (T := TM) (by omega) (fun s hs => ⟨(hM.2.2.1 s (by omega)).2.1, (hM.2.2.1 s (by omega)).1⟩) hto9, sm_bi, sm_has_cg hT]
        by_cases hh : sm_has n TM to = true
        · rw [if_pos hh, if_pos hh, if_neg (show ¬ (1 : Int32) = 0 by decide), if_neg (show ¬ ¬ (0 : Int32) = 0 from fun z => z rfl), sm_bi, if_neg (by decide)]
          exact sm_al_id h
        · rw [if_neg hh, if_neg hh, if_pos (show (0 : Int32) = 0 from rfl), if_pos (show ¬ (1 : Int32) = 0 by decide), sm_bi, if_pos (sm_nn' (by omega))]
          exact run (fun s hs hst z => hh (sm_has_iff.mpr ⟨s, hs, by rw [← hT.1 s hs]; exact z⟩))
    · rw [if_neg (fun z => c4 (l2.mp z)), sm_bi, if_neg (by decide), if_neg (show ¬ ¬ sm_u (sm_i vy) 30 = 0 from fun z => z (uvy.mpr (Or.inr (by omega))))]; exact sm_al_id h
  · rw [if_neg (show ¬ sm_n (q % 100) ≤ (18 : Int32) by simp (disch := omega) only [sm_lit, sm_nlt, sm_nle, sm_neq, sm_n_add, sm_n_mul, sm_n_div, sm_n_rem, sm_bi, sm_bl, sm_bv, sm_let, sm_zz0, sm_zz1, sm_ai, sm_si, sm_al, sm_sl, sm_ar, sm_mi1, sm_mi0, sm_ml1, sm_ml0, sm_mil, sm_mli]; exact q2), if_neg (show ¬ sm_n (q % 100) ≤ (18 : Int32) by simp (disch := omega) only [sm_lit, sm_nlt, sm_nle, sm_neq, sm_n_add, sm_n_mul, sm_n_div, sm_n_rem, sm_bi, sm_bl, sm_bv, sm_let, sm_zz0, sm_zz1, sm_ai, sm_si, sm_al, sm_sl, sm_ar, sm_mi1, sm_mi0, sm_ml1, sm_ml0, sm_mil, sm_mli]; exact q2)]; exact sm_al_id h
