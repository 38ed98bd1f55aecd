/-! SIM: the best bend, the reference -/
section BENT
variable {n : Nat} {T : Nat → sm_tw} {R : sm_rd} {S : sm_fs} {F : sm_lf} {m0 m : gk_M}
theorem m_gb21 {k a b t : Nat} (hk : k < 5) (ha : a < 900) (hb : b < 900) (ht : t < n) (kk : Int32 → Int32 → Int32 → Int32 → Int32 → gk_M → Option (Int32 × gk_M)) (g : Nat → Nat) (hg : ∀ u, g u = sm_c1 (sm_gl S F (T t) (T u) k a b)) : ∀ l u fu acc m, u + l = n → l < fu → sm_p n T R S F m0 m → ∃ m', sm_p n T R S F m0 m' ∧ f_M_guiltsBetween_21 kk fu (sm_n a) (sm_n b) (sm_n k) (sm_n acc) (sm_n t) (sm_n u) m = kk (sm_n a) (sm_n b) (sm_n k) (sm_n (acc + sm_sum l u g)) (sm_n (t + 1)) m'
  | 0, u, fu + 1, acc, m, h1, h3, hq => by
    have hn := hq.1.2.1
    refine ⟨m, hq, ?_⟩
    unfold f_M_guiltsBetween_21
    rw [hq.1.1, if_pos (by simp (disch := omega) only [sm_lit, sm_nlt, sm_nle, sm_neq, sm_n_add, sm_n_mul, sm_n_div, sm_n_rem, sm_bi, sm_bl, sm_bv, sm_let, sm_zz0, sm_zz1, sm_ai, sm_si, sm_al, sm_sl, sm_ar, sm_mi1, sm_mi0, sm_ml1, sm_ml0, sm_mil, sm_mli]; omega), show sm_n t + 1 = sm_n (t + 1) from sm_n_add t 1]
    rfl
  | l + 1, u, fu + 1, acc, m, h1, h3, hq => by
    have hn := hq.1.2.1
    unfold f_M_guiltsBetween_21 f_M_guiltsBetween_51
    obtain ⟨m1, e1, hq1, _⟩ := m_isGuilty hq hk (show t < 20 by omega) (show u < 20 by omega) ha hb
    rw [hq.1.1, if_neg (by simp (disch := omega) only [sm_lit, sm_nlt, sm_nle, sm_neq, sm_n_add, sm_n_mul, sm_n_div, sm_n_rem, sm_bi, sm_bl, sm_bv, sm_let, sm_zz0, sm_zz1, sm_ai, sm_si, sm_al, sm_sl, sm_ar, sm_mi1, sm_mi0, sm_ml1, sm_ml0, sm_mil, sm_mli]; omega), e1, sm_bi, show sm_n u + 1 = sm_n (u + 1) from sm_n_add u 1, show acc + sm_sum (l + 1) u g = acc + g u + sm_sum l (u + 1) g by rw [Nat.add_assoc]; rfl, hg u, sm_let, sm_let]
    cases sm_gl S F (T t) (T u) k a b with
    | false =>
      rw [if_pos (show sm_b2 false = 0 from rfl), show sm_n acc + 0 = sm_n (acc + 0) from sm_n_add acc 0]
      exact m_gb21 hk ha hb ht kk g hg l (u + 1) fu _ m1 (by omega) (by omega) hq1
    | true =>
      rw [if_neg (show ¬ sm_b2 true = 0 by decide), show sm_n acc + 1 = sm_n (acc + 1) from sm_n_add acc 1]
      exact m_gb21 hk ha hb ht kk g hg l (u + 1) fu _ m1 (by omega) (by omega) hq1
theorem m_gb6 {k a b : Nat} (hk : k < 5) (ha : a < 900) (hb : b < 900) (G : Nat → Nat) (hG : ∀ t, G t = sm_sum (n - (t + 1)) (t + 1) (fun u => sm_c1 (sm_gl S F (T t) (T u) k a b))) : ∀ l t fu acc m, t + l = n → l < fu → sm_p n T R S F m0 m → sm_ok (f_M_guiltsBetween_6 fu (sm_n a) (sm_n b) (sm_n k) (sm_n acc) (sm_n t) m) (sm_n (acc + sm_sum l t G)) (sm_p n T R S F m0)
  | 0, t, fu + 1, acc, m, h1, h3, hq => by
    have hn := hq.1.2.1
    unfold f_M_guiltsBetween_6
    rw [hq.1.1, if_pos (by simp (disch := omega) only [sm_lit, sm_nlt, sm_nle, sm_neq, sm_n_add, sm_n_mul, sm_n_div, sm_n_rem, sm_bi, sm_bl, sm_bv, sm_let, sm_zz0, sm_zz1, sm_ai, sm_si, sm_al, sm_sl, sm_ar, sm_mi1, sm_mi0, sm_ml1, sm_ml0, sm_mil, sm_mli]; omega)]
    exact sm_okr hq
  | l + 1, t, fu + 1, acc, m, h1, h3, hq => by
    have hn := hq.1.2.1
    unfold f_M_guiltsBetween_6
    obtain ⟨m1, hq1, e1⟩ := m_gb21 hk ha hb (show t < n by omega) (f_M_guiltsBetween_6 fu) _ (fun _ => rfl) (n - (t + 1)) (t + 1) gk_fv acc m (by omega) (by rw [gk_fv_eq]; omega) hq
    rw [hq.1.1, if_neg (by simp (disch := omega) only [sm_lit, sm_nlt, sm_nle, sm_neq, sm_n_add, sm_n_mul, sm_n_div, sm_n_rem, sm_bi, sm_bl, sm_bv, sm_let, sm_zz0, sm_zz1, sm_ai, sm_si, sm_al, sm_sl, sm_ar, sm_mi1, sm_mi0, sm_ml1, sm_ml0, sm_mil, sm_mli]; omega), sm_let, show sm_n t + 1 = sm_n (t + 1) from sm_n_add t 1, e1, ← hG t, show acc + sm_sum (l + 1) t G = acc + G t + sm_sum l (t + 1) G by rw [Nat.add_assoc]; rfl]
    exact m_gb6 hk ha hb G hG l (t + 1) fu _ m1 (by omega) (by omega) hq1
theorem m_guiltsBetween {k a b : Nat} (hk : k < 5) (ha : a < 900) (hb : b < 900) (hq : sm_p n T R S F m0 m) : sm_ok (f_M_guiltsBetween (sm_n a) (sm_n b) (sm_n k) m) (sm_n (sm_tot n T S F k a b)) (sm_p n T R S F m0) := by
  have hn := hq.1.2.1
  have h := m_gb6 hk ha hb _ (fun _ => rfl) n 0 gk_fv 0 m (by omega) (by rw [gk_fv_eq]; omega) hq
  rw [Nat.zero_add] at h
  exact h
def sm_m1 (o : Option (Nat × Nat)) : Int32 := match o with
  | none => -1
  | some q => sm_n q.1
def sm_m2 (oth : Int) (o : Option (Nat × Nat)) : Int32 := match o with
  | none => 0
  | some q => sm_i (oth + (q.2 : Int))
theorem m_bb {k a b w : Nat} {oth : Int} (h0 : -1000000 ≤ oth ∧ oth ≤ 1000000) (hk : k < 5) (ha : a < 900) (hb : b < 900) (hw : w < 2) : ∀ l p fu o m, p + l = 900 → l < fu → (∀ q, o = some q → q.2 ≤ 200 ∧ q.1 < 900) → sm_p n T R S F m0 m → sm_ok (f_M_bent_88 fu (sm_n w) (sm_n k) (sm_n a) (sm_n b) (sm_i oth) (sm_m1 o) (sm_m2 oth o) (sm_n p) m) (if w = 0 then sm_m1 (sm_bb (sm_bok n T a b) (sm_W n T S F k a b) l p o) else sm_m2 oth (sm_bb (sm_bok n T a b) (sm_W n T S F k a b) l p o)) (sm_p n T R S F m0)
  | 0, p, fu + 1, o, m, h1, h3, ho, hq => by
    unfold f_M_bent_88
    rw [if_pos (by simp (disch := omega) only [sm_lit, sm_nlt, sm_nle, sm_neq, sm_n_add, sm_n_mul, sm_n_div, sm_n_rem, sm_bi, sm_bl, sm_bv, sm_let, sm_zz0, sm_zz1, sm_ai, sm_si, sm_al, sm_sl, sm_ar, sm_mi1, sm_mi0, sm_ml1, sm_ml0, sm_mil, sm_mli]; omega)]
    by_cases hw0 : w = 0
    · rw [if_neg (by subst hw0; exact fun z => z rfl), if_pos hw0]; exact sm_okr hq
    · rw [if_pos (by rw [show (0 : Int32) = sm_n 0 from rfl, sm_neq (by omega) (by omega)]; exact hw0), if_neg hw0]; exact sm_okr hq
  | l + 1, p, fu + 1, o, m, h1, h3, ho, hq => by
    have hn := hq.1.2.1
    unfold f_M_bent_88 f_M_bent_162
    rw [if_neg (by simp (disch := omega) only [sm_lit, sm_nlt, sm_nle, sm_neq, sm_n_add, sm_n_mul, sm_n_div, sm_n_rem, sm_bi, sm_bl, sm_bv, sm_let, sm_zz0, sm_zz1, sm_ai, sm_si, sm_al, sm_sl, sm_ar, sm_mi1, sm_mi0, sm_ml1, sm_ml0, sm_mil, sm_mli]; omega), show sm_n p + 1 = sm_n (p + 1) from sm_n_add p 1]
    unfold sm_bb
    have skip : sm_bok n T a b p = false → sm_ok (f_M_bent_88 fu (sm_n w) (sm_n k) (sm_n a) (sm_n b) (sm_i oth) (sm_m1 o) (sm_m2 oth o) (sm_n (p + 1)) m) (if w = 0 then sm_m1 (sm_bb (sm_bok n T a b) (sm_W n T S F k a b) l (p + 1) (sm_bs (sm_bok n T a b) (sm_W n T S F k a b) p o)) else sm_m2 oth (sm_bb (sm_bok n T a b) (sm_W n T S F k a b) l (p + 1) (sm_bs (sm_bok n T a b) (sm_W n T S F k a b) p o))) (sm_p n T R S F m0) := by
      intro hno
      rw [sm_bs_no hno]
      exact m_bb h0 hk ha hb hw l (p + 1) fu o m (by omega) (by omega) ho hq
    by_cases e1 : p = a
    · rw [if_pos (by rw [e1])]
      exact skip (by unfold sm_bok; rw [e1]; simp)
    rw [if_neg (by rw [sm_neq (by omega) (by omega)]; exact e1)]
    by_cases e2 : p = b
    · rw [if_pos (by rw [e2])]
      exact skip (by unfold sm_bok; rw [e2]; simp)
    rw [if_neg (by rw [sm_neq (by omega) (by omega)]; exact e2), hq.1.1, m_isFreeOf (T := T) (by omega) (fun s hs => ⟨(hq.1.2.2.1 s (by omega)).2.1, (hq.1.2.2.1 s (by omega)).1⟩) (show p < 900 by omega), sm_bi]
    by_cases hh : sm_has n T p = true
    · rw [if_pos hh, if_neg (show ¬ ¬ (0 : Int32) = 0 from fun z => z rfl)]
      exact skip (by unfold sm_bok; rw [hh]; simp)
    · have hok : sm_bok n T a b p = true := by
        unfold sm_bok
        simp [e1, e2, hh]
      rw [if_neg hh, if_pos (show ¬ (1 : Int32) = 0 by decide)]
      have t1 := sm_totl hn T S F k a p
      have t2 := sm_totl hn T S F k p b
      obtain ⟨m1, g1, q1⟩ := m_guiltsBetween hk ha (show p < 900 by omega) hq
      obtain ⟨m2, g2, q2⟩ := m_guiltsBetween hk (show p < 900 by omega) hb q1
      rw [g1, sm_bi, g2, sm_bi, sm_let]
      have ev : sm_i oth + sm_n (sm_tot n T S F k a p) + sm_n (sm_tot n T S F k p b) = sm_i (oth + ((sm_W n T S F k a b p : Nat) : Int)) := by
        rw [sm_ni, sm_ni, sm_i_add, sm_i_add]
        unfold sm_W
        congr 1; omega
      rw [ev]
      have hW : sm_W n T S F k a b p ≤ 200 := by unfold sm_W; omega
      cases o with
      | none =>
        rw [if_pos (show sm_m1 none < 0 by decide), sm_bs_none hok]
        exact m_bb h0 hk ha hb hw l (p + 1) fu (some (p, sm_W n T S F k a b p)) m2 (by omega) (by omega) (by intro q hq'; cases hq'; exact ⟨hW, by show p < 900; omega⟩) q2
      | some q =>
        obtain ⟨hq1, hq2⟩ := ho q rfl
        rw [if_neg (show ¬ sm_m1 (some q) < 0 from sm_nn (by omega))]
        show sm_ok (if sm_i (oth + (q.2 : Int)) ≤ sm_i (oth + ((sm_W n T S F k a b p : Nat) : Int)) then _ else _) _ _
        by_cases hlt : sm_W n T S F k a b p < q.2
        · rw [if_neg (by rw [sm_ile (by omega) (by omega) (by omega) (by omega)]; omega), sm_bs_lt hok hlt]
          exact m_bb h0 hk ha hb hw l (p + 1) fu (some (p, sm_W n T S F k a b p)) m2 (by omega) (by omega) (by intro q hq'; cases hq'; exact ⟨hW, by show p < 900; omega⟩) q2
        · rw [if_pos (by rw [sm_ile (by omega) (by omega) (by omega) (by omega)]; omega), sm_bs_ge hlt]
          exact m_bb h0 hk ha hb hw l (p + 1) fu (some q) m2 (by omega) (by omega) ho q2
end BENT
